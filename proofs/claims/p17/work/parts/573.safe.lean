/-! PURE: each method of the class answers, and keeps the shape of its cells (written by sgen.py) -/
theorem pX1_takeEntry {v : Nat → Nat} {G0 G : gH} {b : Nat} {O : Nat → Nat → Int32} {P : Nat → Nat → Int64} {a1 : Int32} {a2 : Int32} {a3 : Int64} (h0 : Rch v G0 b O P 11 266 G) : Ok (fun r => (r.1 = 0 ∨ r.1 = 1) ∧ Rch v G0 b O P 11 266 r.2) (fX1_takeEntry v G (b + 11) a1 a2 a3) := by
  unfold fX1_takeEntry
  obtain ⟨_, _, o1⟩ := h0.oD
  refine Ok.e (gOb_at o1) ?_
  refine Ok.e (gI_at o1 rfl) ?_
  refine Ok.i (fun c2 => ?_) (fun c2 => ?_)
  · unfold jX1_takeEntry_19
    refine Ok.e (gR_at o1 rfl) ?_
    refine Ok.b (pX4_end h0 ) (fun x2 h3 => ?_)
    refine Ok.e gZ_0 ?_
    exact Ok.s ⟨(by first | exact Or.inl rfl | exact Or.inr rfl | assumption | exact And.left (by assumption)), h3⟩
  · refine Ok.e (gI_at o1 rfl) ?_
    refine Ok.e (gR_at o1 rfl) ?_
    refine Ok.e h0.allLen ?_
    refine Ok.i (fun c4 => ?_) (fun c4 => ?_)
    · refine Ok.e (gR_at o1 rfl) ?_
      refine Ok.e (gI_at o1 rfl) ?_
      obtain ⟨i0, hi0, e0⟩ := fidx (by assumption) (by assumption)
      subst e0
      refine Ok.e (h0.all hi0) ?_
      have hkn := fkI hi0
      generalize 26 + 6 * i0 = kn at hkn ⊢
      have zn := fkB_iff.mp hkn
      have o5 := h0.oN hkn
      refine Ok.e (gR_at o5 rfl) ?_
      refine Ok.b (pX1_takeName h0 ((rkN2 hkn)) (by omega)) (fun x11 h6 => ?_)
      have o7 := h6.oN hkn
      refine Ok.e (gR_at o7 rfl) ?_
      refine Ok.b (pX1_takeLink h6 ((rkN4 hkn)) (by omega)) (fun x14 h8 => ?_)
      have o9 := h8.oN hkn
      refine Ok.e (gR_at o9 rfl) ?_
      refine Ok.b (h8.count (rkN2 hkn)) (fun x17 hu10 => ?_)
      refine Ok.i (fun c11 => ?_) (fun c11 => ?_)
      · obtain ⟨_, _, o12⟩ := h8.oD
        refine Ok.e (gR_at o12 rfl) ?_
        refine Ok.b (pX4_end h8 ) (fun x29 h13 => ?_)
        refine Ok.e gZ_0 ?_
        exact Ok.s ⟨(by first | exact Or.inl rfl | exact Or.inr rfl | assumption | exact And.left (by assumption)), h13⟩
      · refine Ok.i (fun c14 => ?_) (fun c14 => ?_)
        · refine Ok.b (pX1_hasMagic h8 ) (fun x21 h15 => ?_)
          refine Ok.i (fun c16 => ?_) (fun c16 => ?_)
          · refine Ok.e (gR_at o9 rfl) ?_
            refine Ok.b (h8.slash (rkN2 hkn)) (fun x25 z17 => ?_)
            refine Ok.i (fun c18 => ?_) (fun c18 => ?_)
            · unfold jX1_takeEntry_116
              unfold jX1_takeEntry_117
              refine Ok.i (fun c19 => ?_) (fun c19 => ?_)
              · unfold jX1_takeEntry_130
                refine Ok.b (pX1_setValues h8 (hkn)) (fun x1 h20 => ?_)
                have o21 := h20.oN hkn
                refine Ok.e (gR_at o21 rfl) ?_
                refine Ok.e (gR_at o21 rfl) ?_
                refine Ok.e (gR_at o21 rfl) ?_
                refine Ok.b (pX9_bits h20 ((rkN2 hkn)) ((rkN4 hkn))) (fun x6 h22 => ?_)
                refine Ok.b (h20.sF (j := 11) hkn (by omega) (by decide)) (fun G8 h23 => ?_)
                obtain ⟨_, _, o24⟩ := h23.oD
                refine Ok.e (gI_at o24 rfl) ?_
                refine Ok.b (h23.pi tm_D7 (by omega)) (fun G10 h25 => ?_)
                obtain ⟨_, _, o26⟩ := h25.oD
                refine Ok.e (gR_at o26 rfl) ?_
                refine Ok.b (pX0_forget h25 (hA13)) (fun x12 h27 => ?_)
                refine Ok.e gZ_1 ?_
                exact Ok.s ⟨(by first | exact Or.inl rfl | exact Or.inr rfl | assumption | exact And.left (by assumption)), h27⟩
              · unfold jX1_takeEntry_130
                refine Ok.b (pX1_setValues h8 (hkn)) (fun x1 h28 => ?_)
                have o29 := h28.oN hkn
                refine Ok.e (gR_at o29 rfl) ?_
                refine Ok.e (gR_at o29 rfl) ?_
                refine Ok.e (gR_at o29 rfl) ?_
                refine Ok.b (pX9_bits h28 ((rkN2 hkn)) ((rkN4 hkn))) (fun x6 h30 => ?_)
                refine Ok.b (h28.sF (j := 11) hkn (by omega) (by decide)) (fun G8 h31 => ?_)
                obtain ⟨_, _, o32⟩ := h31.oD
                refine Ok.e (gI_at o32 rfl) ?_
                refine Ok.b (h31.pi tm_D7 (by omega)) (fun G10 h33 => ?_)
                obtain ⟨_, _, o34⟩ := h33.oD
                refine Ok.e (gR_at o34 rfl) ?_
                refine Ok.b (pX0_forget h33 (hA13)) (fun x12 h35 => ?_)
                refine Ok.e gZ_1 ?_
                exact Ok.s ⟨(by first | exact Or.inl rfl | exact Or.inr rfl | assumption | exact And.left (by assumption)), h35⟩
            · unfold jX1_takeEntry_117
              refine Ok.i (fun c36 => ?_) (fun c36 => ?_)
              · unfold jX1_takeEntry_130
                refine Ok.b (pX1_setValues h8 (hkn)) (fun x1 h37 => ?_)
                have o38 := h37.oN hkn
                refine Ok.e (gR_at o38 rfl) ?_
                refine Ok.e (gR_at o38 rfl) ?_
                refine Ok.e (gR_at o38 rfl) ?_
                refine Ok.b (pX9_bits h37 ((rkN2 hkn)) ((rkN4 hkn))) (fun x6 h39 => ?_)
                refine Ok.b (h37.sF (j := 11) hkn (by omega) (by decide)) (fun G8 h40 => ?_)
                obtain ⟨_, _, o41⟩ := h40.oD
                refine Ok.e (gI_at o41 rfl) ?_
                refine Ok.b (h40.pi tm_D7 (by omega)) (fun G10 h42 => ?_)
                obtain ⟨_, _, o43⟩ := h42.oD
                refine Ok.e (gR_at o43 rfl) ?_
                refine Ok.b (pX0_forget h42 (hA13)) (fun x12 h44 => ?_)
                refine Ok.e gZ_1 ?_
                exact Ok.s ⟨(by first | exact Or.inl rfl | exact Or.inr rfl | assumption | exact And.left (by assumption)), h44⟩
              · unfold jX1_takeEntry_130
                refine Ok.b (pX1_setValues h8 (hkn)) (fun x1 h45 => ?_)
                have o46 := h45.oN hkn
                refine Ok.e (gR_at o46 rfl) ?_
                refine Ok.e (gR_at o46 rfl) ?_
                refine Ok.e (gR_at o46 rfl) ?_
                refine Ok.b (pX9_bits h45 ((rkN2 hkn)) ((rkN4 hkn))) (fun x6 h47 => ?_)
                refine Ok.b (h45.sF (j := 11) hkn (by omega) (by decide)) (fun G8 h48 => ?_)
                obtain ⟨_, _, o49⟩ := h48.oD
                refine Ok.e (gI_at o49 rfl) ?_
                refine Ok.b (h48.pi tm_D7 (by omega)) (fun G10 h50 => ?_)
                obtain ⟨_, _, o51⟩ := h50.oD
                refine Ok.e (gR_at o51 rfl) ?_
                refine Ok.b (pX0_forget h50 (hA13)) (fun x12 h52 => ?_)
                refine Ok.e gZ_1 ?_
                exact Ok.s ⟨(by first | exact Or.inl rfl | exact Or.inr rfl | assumption | exact And.left (by assumption)), h52⟩
          · unfold jX1_takeEntry_116
            unfold jX1_takeEntry_117
            refine Ok.i (fun c53 => ?_) (fun c53 => ?_)
            · unfold jX1_takeEntry_130
              refine Ok.b (pX1_setValues h8 (hkn)) (fun x1 h54 => ?_)
              have o55 := h54.oN hkn
              refine Ok.e (gR_at o55 rfl) ?_
              refine Ok.e (gR_at o55 rfl) ?_
              refine Ok.e (gR_at o55 rfl) ?_
              refine Ok.b (pX9_bits h54 ((rkN2 hkn)) ((rkN4 hkn))) (fun x6 h56 => ?_)
              refine Ok.b (h54.sF (j := 11) hkn (by omega) (by decide)) (fun G8 h57 => ?_)
              obtain ⟨_, _, o58⟩ := h57.oD
              refine Ok.e (gI_at o58 rfl) ?_
              refine Ok.b (h57.pi tm_D7 (by omega)) (fun G10 h59 => ?_)
              obtain ⟨_, _, o60⟩ := h59.oD
              refine Ok.e (gR_at o60 rfl) ?_
              refine Ok.b (pX0_forget h59 (hA13)) (fun x12 h61 => ?_)
              refine Ok.e gZ_1 ?_
              exact Ok.s ⟨(by first | exact Or.inl rfl | exact Or.inr rfl | assumption | exact And.left (by assumption)), h61⟩
            · unfold jX1_takeEntry_130
              refine Ok.b (pX1_setValues h8 (hkn)) (fun x1 h62 => ?_)
              have o63 := h62.oN hkn
              refine Ok.e (gR_at o63 rfl) ?_
              refine Ok.e (gR_at o63 rfl) ?_
              refine Ok.e (gR_at o63 rfl) ?_
              refine Ok.b (pX9_bits h62 ((rkN2 hkn)) ((rkN4 hkn))) (fun x6 h64 => ?_)
              refine Ok.b (h62.sF (j := 11) hkn (by omega) (by decide)) (fun G8 h65 => ?_)
              obtain ⟨_, _, o66⟩ := h65.oD
              refine Ok.e (gI_at o66 rfl) ?_
              refine Ok.b (h65.pi tm_D7 (by omega)) (fun G10 h67 => ?_)
              obtain ⟨_, _, o68⟩ := h67.oD
              refine Ok.e (gR_at o68 rfl) ?_
              refine Ok.b (pX0_forget h67 (hA13)) (fun x12 h69 => ?_)
              refine Ok.e gZ_1 ?_
              exact Ok.s ⟨(by first | exact Or.inl rfl | exact Or.inr rfl | assumption | exact And.left (by assumption)), h69⟩
        · unfold jX1_takeEntry_116
          unfold jX1_takeEntry_117
          refine Ok.i (fun c70 => ?_) (fun c70 => ?_)
          · unfold jX1_takeEntry_130
            refine Ok.b (pX1_setValues h8 (hkn)) (fun x1 h71 => ?_)
            have o72 := h71.oN hkn
            refine Ok.e (gR_at o72 rfl) ?_
            refine Ok.e (gR_at o72 rfl) ?_
            refine Ok.e (gR_at o72 rfl) ?_
            refine Ok.b (pX9_bits h71 ((rkN2 hkn)) ((rkN4 hkn))) (fun x6 h73 => ?_)
            refine Ok.b (h71.sF (j := 11) hkn (by omega) (by decide)) (fun G8 h74 => ?_)
            obtain ⟨_, _, o75⟩ := h74.oD
            refine Ok.e (gI_at o75 rfl) ?_
            refine Ok.b (h74.pi tm_D7 (by omega)) (fun G10 h76 => ?_)
            obtain ⟨_, _, o77⟩ := h76.oD
            refine Ok.e (gR_at o77 rfl) ?_
            refine Ok.b (pX0_forget h76 (hA13)) (fun x12 h78 => ?_)
            refine Ok.e gZ_1 ?_
            exact Ok.s ⟨(by first | exact Or.inl rfl | exact Or.inr rfl | assumption | exact And.left (by assumption)), h78⟩
          · unfold jX1_takeEntry_130
            refine Ok.b (pX1_setValues h8 (hkn)) (fun x1 h79 => ?_)
            have o80 := h79.oN hkn
            refine Ok.e (gR_at o80 rfl) ?_
            refine Ok.e (gR_at o80 rfl) ?_
            refine Ok.e (gR_at o80 rfl) ?_
            refine Ok.b (pX9_bits h79 ((rkN2 hkn)) ((rkN4 hkn))) (fun x6 h81 => ?_)
            refine Ok.b (h79.sF (j := 11) hkn (by omega) (by decide)) (fun G8 h82 => ?_)
            obtain ⟨_, _, o83⟩ := h82.oD
            refine Ok.e (gI_at o83 rfl) ?_
            refine Ok.b (h82.pi tm_D7 (by omega)) (fun G10 h84 => ?_)
            obtain ⟨_, _, o85⟩ := h84.oD
            refine Ok.e (gR_at o85 rfl) ?_
            refine Ok.b (pX0_forget h84 (hA13)) (fun x12 h86 => ?_)
            refine Ok.e gZ_1 ?_
            exact Ok.s ⟨(by first | exact Or.inl rfl | exact Or.inr rfl | assumption | exact And.left (by assumption)), h86⟩
    · unfold jX1_takeEntry_19
      refine Ok.e (gR_at o1 rfl) ?_
      refine Ok.b (pX4_end h0 ) (fun x2 h87 => ?_)
      refine Ok.e gZ_0 ?_
      exact Ok.s ⟨(by first | exact Or.inl rfl | exact Or.inr rfl | assumption | exact And.left (by assumption)), h87⟩
theorem qX8_findParts_5 {v : Nat → Nat} {G0 G : gH} {b : Nat} {O : Nat → Nat → Int32} {P : Nat → Nat → Int64} (h0 : Rch v G0 b O P 11 266 G)  : ∀ (n : Nat) (y1 : Int32) (y2 : Int32) (y3 : Int32) (y4 : Int32), gap y3 y2 < n → Ok (fun r => (r.1 = 0 ∨ r.1 = 1) ∧ Rch v G0 b O P 11 266 r.2) (lX8_findParts_5 v n G (b + 25) y1 y2 y3 y4) := by
  have lp : ∀ (n : Nat) (G : gH) (y1 : Int32) (y2 : Int32) (y3 : Int32) (y4 : Int32), Rch v G0 b O P 11 266 G → gap y3 y2 < n → Ok (fun r => (r.1 = 0 ∨ r.1 = 1) ∧ Rch v G0 b O P 11 266 r.2) (lX8_findParts_5 v n G (b + 25) y1 y2 y3 y4) := by
    intro n
    induction n with
    | zero => intro G y1 y2 y3 y4 _ h; exact absurd h (Nat.not_lt_zero _)
    | succ n ih =>
      intro G y1 y2 y3 y4 h0 hm
      show Ok _ (bX8_findParts_5 v (lX8_findParts_5 v n) G (b + 25) y1 y2 y3 y4)
      unfold bX8_findParts_5
      refine Ok.i (fun c1 => ?_) (fun c1 => ?_)
      · unfold jX8_findParts_68
        refine Ok.i (fun c2 => ?_) (fun c2 => ?_)
        · refine Ok.e gZ_0 ?_
          exact Ok.s ⟨(by first | exact Or.inl rfl | exact Or.inr rfl | assumption | exact And.left (by assumption)), h0⟩
        · refine Ok.i (fun c3 => ?_) (fun c3 => ?_)
          · refine Ok.e gZ_0 ?_
            exact Ok.s ⟨(by first | exact Or.inl rfl | exact Or.inr rfl | assumption | exact And.left (by assumption)), h0⟩
          · obtain ⟨_, _, _, o4⟩ := h0.oQ
            refine Ok.e (gR_at o4 rfl) ?_
            refine Ok.b (h0.at_ rk3) (fun x6 _ => ?_)
            refine Ok.i (fun c5 => ?_) (fun c5 => ?_)
            · refine Ok.b (h0.pi tm_Q2 (by omega)) (fun G9 h6 => ?_)
              refine Ok.b (h6.pi tm_Q4 (by omega)) (fun G10 h7 => ?_)
              obtain ⟨_, _, _, o8⟩ := h7.oQ
              refine Ok.e (gI_at o8 rfl) ?_
              refine Ok.e (gI_at o8 rfl) ?_
              refine Ok.i (fun c9 => ?_) (fun c9 => ?_)
              · refine Ok.e gZ_0 ?_
                exact Ok.s ⟨(by first | exact Or.inl rfl | exact Or.inr rfl | assumption | exact And.left (by assumption)), h7⟩
              · refine Ok.e (gI_at o8 rfl) ?_
                refine Ok.i (fun c10 => ?_) (fun c10 => ?_)
                · refine Ok.e gZ_0 ?_
                  exact Ok.s ⟨(by first | exact Or.inl rfl | exact Or.inr rfl | assumption | exact And.left (by assumption)), h7⟩
                · refine Ok.e (gR_at o8 rfl) ?_
                  refine Ok.e (gI_at o8 rfl) ?_
                  refine Ok.b (h7.at_ rk3) (fun x20 _ => ?_)
                  refine Ok.i (fun c11 => ?_) (fun c11 => ?_)
                  · refine Ok.e (gR_at o8 rfl) ?_
                    refine Ok.e (gI_at o8 rfl) ?_
                    refine Ok.e (gI_at o8 rfl) ?_
                    refine Ok.b (h7.find rk3) (fun x26 _ => ?_)
                    refine Ok.b (h7.pi tm_Q3 (by omega)) (fun G28 h12 => ?_)
                    obtain ⟨_, _, _, o13⟩ := h12.oQ
                    refine Ok.e (gI_at o13 rfl) ?_
                    refine Ok.e (gI_at o13 rfl) ?_
                    refine Ok.i (fun c14 => ?_) (fun c14 => ?_)
                    · refine Ok.e gZ_0 ?_
                      exact Ok.s ⟨(by first | exact Or.inl rfl | exact Or.inr rfl | assumption | exact And.left (by assumption)), h12⟩
                    · refine Ok.e gZ_1 ?_
                      exact Ok.s ⟨(by first | exact Or.inl rfl | exact Or.inr rfl | assumption | exact And.left (by assumption)), h12⟩
                  · refine Ok.e gZ_0 ?_
                    exact Ok.s ⟨(by first | exact Or.inl rfl | exact Or.inr rfl | assumption | exact And.left (by assumption)), h7⟩
            · refine Ok.e gZ_0 ?_
              exact Ok.s ⟨(by first | exact Or.inl rfl | exact Or.inr rfl | assumption | exact And.left (by assumption)), h0⟩
      · refine Ok.i (fun c15 => ?_) (fun c15 => ?_)
        · unfold jX8_findParts_68
          refine Ok.i (fun c16 => ?_) (fun c16 => ?_)
          · refine Ok.e gZ_0 ?_
            exact Ok.s ⟨(by first | exact Or.inl rfl | exact Or.inr rfl | assumption | exact And.left (by assumption)), h0⟩
          · refine Ok.i (fun c17 => ?_) (fun c17 => ?_)
            · refine Ok.e gZ_0 ?_
              exact Ok.s ⟨(by first | exact Or.inl rfl | exact Or.inr rfl | assumption | exact And.left (by assumption)), h0⟩
            · obtain ⟨_, _, _, o18⟩ := h0.oQ
              refine Ok.e (gR_at o18 rfl) ?_
              refine Ok.b (h0.at_ rk3) (fun x6 _ => ?_)
              refine Ok.i (fun c19 => ?_) (fun c19 => ?_)
              · refine Ok.b (h0.pi tm_Q2 (by omega)) (fun G9 h20 => ?_)
                refine Ok.b (h20.pi tm_Q4 (by omega)) (fun G10 h21 => ?_)
                obtain ⟨_, _, _, o22⟩ := h21.oQ
                refine Ok.e (gI_at o22 rfl) ?_
                refine Ok.e (gI_at o22 rfl) ?_
                refine Ok.i (fun c23 => ?_) (fun c23 => ?_)
                · refine Ok.e gZ_0 ?_
                  exact Ok.s ⟨(by first | exact Or.inl rfl | exact Or.inr rfl | assumption | exact And.left (by assumption)), h21⟩
                · refine Ok.e (gI_at o22 rfl) ?_
                  refine Ok.i (fun c24 => ?_) (fun c24 => ?_)
                  · refine Ok.e gZ_0 ?_
                    exact Ok.s ⟨(by first | exact Or.inl rfl | exact Or.inr rfl | assumption | exact And.left (by assumption)), h21⟩
                  · refine Ok.e (gR_at o22 rfl) ?_
                    refine Ok.e (gI_at o22 rfl) ?_
                    refine Ok.b (h21.at_ rk3) (fun x20 _ => ?_)
                    refine Ok.i (fun c25 => ?_) (fun c25 => ?_)
                    · refine Ok.e (gR_at o22 rfl) ?_
                      refine Ok.e (gI_at o22 rfl) ?_
                      refine Ok.e (gI_at o22 rfl) ?_
                      refine Ok.b (h21.find rk3) (fun x26 _ => ?_)
                      refine Ok.b (h21.pi tm_Q3 (by omega)) (fun G28 h26 => ?_)
                      obtain ⟨_, _, _, o27⟩ := h26.oQ
                      refine Ok.e (gI_at o27 rfl) ?_
                      refine Ok.e (gI_at o27 rfl) ?_
                      refine Ok.i (fun c28 => ?_) (fun c28 => ?_)
                      · refine Ok.e gZ_0 ?_
                        exact Ok.s ⟨(by first | exact Or.inl rfl | exact Or.inr rfl | assumption | exact And.left (by assumption)), h26⟩
                      · refine Ok.e gZ_1 ?_
                        exact Ok.s ⟨(by first | exact Or.inl rfl | exact Or.inr rfl | assumption | exact And.left (by assumption)), h26⟩
                    · refine Ok.e gZ_0 ?_
                      exact Ok.s ⟨(by first | exact Or.inl rfl | exact Or.inr rfl | assumption | exact And.left (by assumption)), h21⟩
              · refine Ok.e gZ_0 ?_
                exact Ok.s ⟨(by first | exact Or.inl rfl | exact Or.inr rfl | assumption | exact And.left (by assumption)), h0⟩
        · obtain ⟨_, _, _, o29⟩ := h0.oQ
          refine Ok.e (gR_at o29 rfl) ?_
          refine Ok.b (h0.at_ rk3) (fun x4 _ => ?_)
          refine Ok.i (fun c30 => ?_) (fun c30 => ?_)
          · unfold jX8_findParts_68
            refine Ok.i (fun c31 => ?_) (fun c31 => ?_)
            · refine Ok.e gZ_0 ?_
              exact Ok.s ⟨(by first | exact Or.inl rfl | exact Or.inr rfl | assumption | exact And.left (by assumption)), h0⟩
            · refine Ok.i (fun c32 => ?_) (fun c32 => ?_)
              · refine Ok.e gZ_0 ?_
                exact Ok.s ⟨(by first | exact Or.inl rfl | exact Or.inr rfl | assumption | exact And.left (by assumption)), h0⟩
              · refine Ok.e (gR_at o29 rfl) ?_
                refine Ok.b (h0.at_ rk3) (fun x6 _ => ?_)
                refine Ok.i (fun c33 => ?_) (fun c33 => ?_)
                · refine Ok.b (h0.pi tm_Q2 (by omega)) (fun G9 h34 => ?_)
                  refine Ok.b (h34.pi tm_Q4 (by omega)) (fun G10 h35 => ?_)
                  obtain ⟨_, _, _, o36⟩ := h35.oQ
                  refine Ok.e (gI_at o36 rfl) ?_
                  refine Ok.e (gI_at o36 rfl) ?_
                  refine Ok.i (fun c37 => ?_) (fun c37 => ?_)
                  · refine Ok.e gZ_0 ?_
                    exact Ok.s ⟨(by first | exact Or.inl rfl | exact Or.inr rfl | assumption | exact And.left (by assumption)), h35⟩
                  · refine Ok.e (gI_at o36 rfl) ?_
                    refine Ok.i (fun c38 => ?_) (fun c38 => ?_)
                    · refine Ok.e gZ_0 ?_
                      exact Ok.s ⟨(by first | exact Or.inl rfl | exact Or.inr rfl | assumption | exact And.left (by assumption)), h35⟩
                    · refine Ok.e (gR_at o36 rfl) ?_
                      refine Ok.e (gI_at o36 rfl) ?_
                      refine Ok.b (h35.at_ rk3) (fun x20 _ => ?_)
                      refine Ok.i (fun c39 => ?_) (fun c39 => ?_)
                      · refine Ok.e (gR_at o36 rfl) ?_
                        refine Ok.e (gI_at o36 rfl) ?_
                        refine Ok.e (gI_at o36 rfl) ?_
                        refine Ok.b (h35.find rk3) (fun x26 _ => ?_)
                        refine Ok.b (h35.pi tm_Q3 (by omega)) (fun G28 h40 => ?_)
                        obtain ⟨_, _, _, o41⟩ := h40.oQ
                        refine Ok.e (gI_at o41 rfl) ?_
                        refine Ok.e (gI_at o41 rfl) ?_
                        refine Ok.i (fun c42 => ?_) (fun c42 => ?_)
                        · refine Ok.e gZ_0 ?_
                          exact Ok.s ⟨(by first | exact Or.inl rfl | exact Or.inr rfl | assumption | exact And.left (by assumption)), h40⟩
                        · refine Ok.e gZ_1 ?_
                          exact Ok.s ⟨(by first | exact Or.inl rfl | exact Or.inr rfl | assumption | exact And.left (by assumption)), h40⟩
                      · refine Ok.e gZ_0 ?_
                        exact Ok.s ⟨(by first | exact Or.inl rfl | exact Or.inr rfl | assumption | exact And.left (by assumption)), h35⟩
                · refine Ok.e gZ_0 ?_
                  exact Ok.s ⟨(by first | exact Or.inl rfl | exact Or.inr rfl | assumption | exact And.left (by assumption)), h0⟩
          · refine Ok.e (gR_at o29 rfl) ?_
            refine Ok.b (h0.at_ rk3) (fun x8 _ => ?_)
            refine Ok.i (fun c43 => ?_) (fun c43 => ?_)
            · unfold jX8_findParts_68
              refine Ok.i (fun c44 => ?_) (fun c44 => ?_)
              · refine Ok.e gZ_0 ?_
                exact Ok.s ⟨(by first | exact Or.inl rfl | exact Or.inr rfl | assumption | exact And.left (by assumption)), h0⟩
              · refine Ok.i (fun c45 => ?_) (fun c45 => ?_)
                · refine Ok.e gZ_0 ?_
                  exact Ok.s ⟨(by first | exact Or.inl rfl | exact Or.inr rfl | assumption | exact And.left (by assumption)), h0⟩
                · refine Ok.e (gR_at o29 rfl) ?_
                  refine Ok.b (h0.at_ rk3) (fun x6 _ => ?_)
                  refine Ok.i (fun c46 => ?_) (fun c46 => ?_)
                  · refine Ok.b (h0.pi tm_Q2 (by omega)) (fun G9 h47 => ?_)
                    refine Ok.b (h47.pi tm_Q4 (by omega)) (fun G10 h48 => ?_)
                    obtain ⟨_, _, _, o49⟩ := h48.oQ
                    refine Ok.e (gI_at o49 rfl) ?_
                    refine Ok.e (gI_at o49 rfl) ?_
                    refine Ok.i (fun c50 => ?_) (fun c50 => ?_)
                    · refine Ok.e gZ_0 ?_
                      exact Ok.s ⟨(by first | exact Or.inl rfl | exact Or.inr rfl | assumption | exact And.left (by assumption)), h48⟩
                    · refine Ok.e (gI_at o49 rfl) ?_
                      refine Ok.i (fun c51 => ?_) (fun c51 => ?_)
                      · refine Ok.e gZ_0 ?_
                        exact Ok.s ⟨(by first | exact Or.inl rfl | exact Or.inr rfl | assumption | exact And.left (by assumption)), h48⟩
                      · refine Ok.e (gR_at o49 rfl) ?_
                        refine Ok.e (gI_at o49 rfl) ?_
                        refine Ok.b (h48.at_ rk3) (fun x20 _ => ?_)
                        refine Ok.i (fun c52 => ?_) (fun c52 => ?_)
                        · refine Ok.e (gR_at o49 rfl) ?_
                          refine Ok.e (gI_at o49 rfl) ?_
                          refine Ok.e (gI_at o49 rfl) ?_
                          refine Ok.b (h48.find rk3) (fun x26 _ => ?_)
                          refine Ok.b (h48.pi tm_Q3 (by omega)) (fun G28 h53 => ?_)
                          obtain ⟨_, _, _, o54⟩ := h53.oQ
                          refine Ok.e (gI_at o54 rfl) ?_
                          refine Ok.e (gI_at o54 rfl) ?_
                          refine Ok.i (fun c55 => ?_) (fun c55 => ?_)
                          · refine Ok.e gZ_0 ?_
                            exact Ok.s ⟨(by first | exact Or.inl rfl | exact Or.inr rfl | assumption | exact And.left (by assumption)), h53⟩
                          · refine Ok.e gZ_1 ?_
                            exact Ok.s ⟨(by first | exact Or.inl rfl | exact Or.inr rfl | assumption | exact And.left (by assumption)), h53⟩
                        · refine Ok.e gZ_0 ?_
                          exact Ok.s ⟨(by first | exact Or.inl rfl | exact Or.inr rfl | assumption | exact And.left (by assumption)), h48⟩
                  · refine Ok.e gZ_0 ?_
                    exact Ok.s ⟨(by first | exact Or.inl rfl | exact Or.inr rfl | assumption | exact And.left (by assumption)), h0⟩
            · refine Ok.e (gR_at o29 rfl) ?_
              refine Ok.b (h0.at_ rk3) (fun x12 _ => ?_)
              refine Ok.e rfl ?_
              refine Ok.e rfl ?_
              exact ih _ _ _ _ _ h0  (by first | exact gap_up (by assumption) hm | exact gap_up' (by assumption) hm | exact dist_dn (by assumption) hm | exact dist_dn (n1 (by assumption)) hm | exact dist_dn (n2 (by assumption)) hm | exact gap_up' (lt40 (by assumption) (by assumption)) hm | exact gap_up' (le40 (by assumption) (by assumption)) hm | exact gap_up' (lt65 (by assumption)) hm | exact div10 (by assumption) hm)
  intro n y1 y2 y3 y4 hm
  exact lp n G y1 y2 y3 y4 h0 hm
theorem pX8_findParts {v : Nat → Nat} {G0 G : gH} {b : Nat} {O : Nat → Nat → Int32} {P : Nat → Nat → Int64} {a1 : Int32} {a2 : Int32} (h0 : Rch v G0 b O P 11 266 G) : Ok (fun r => (r.1 = 0 ∨ r.1 = 1) ∧ Rch v G0 b O P 11 266 r.2) (fX8_findParts v G (b + 25) a1 a2) := by
  unfold fX8_findParts
  obtain ⟨_, _, _, o1⟩ := h0.oQ
  refine Ok.e (gOb_at o1) ?_
  exact qX8_findParts_5 h0  gFu _ _ _ _ (gap_fu _ _)
theorem pX8_isKey {v : Nat → Nat} {G0 G : gH} {b : Nat} {O : Nat → Nat → Int32} {P : Nat → Nat → Int64} {lo hi : Nat}  (h0 : Rch v G0 b O P lo hi G) {a1 : Nat} (hs : StrLo b G0 a1) : Ok (fun x => x = 0 ∨ x = 1) (fX8_isKey v G (b + 25) a1) := by
  unfold fX8_isKey
  obtain ⟨_, _, _, o1⟩ := h0.oQ
  refine Ok.e (gOb_at o1) ?_
  refine Ok.e (gR_at o1 rfl) ?_
  refine Ok.e (gI_at o1 rfl) ?_
  refine Ok.e (gI_at o1 rfl) ?_
  refine Ok.b (h0.holds rk3 hs) (fun x4 z2 => ?_)
  refine Ok.e (gZ_ok (by first | assumption | exact And.left (by assumption))) ?_
  exact Ok.s (by first | exact Or.inl rfl | exact Or.inr rfl | assumption | exact And.left (by assumption))
theorem pX8_hasNoZero {v : Nat → Nat} {G0 G : gH} {b : Nat} {O : Nat → Nat → Int32} {P : Nat → Nat → Int64} {lo hi : Nat}  (h0 : Rch v G0 b O P lo hi G) : Ok (fun x => x = 0 ∨ x = 1) (fX8_hasNoZero v G (b + 25)) := by
  unfold fX8_hasNoZero
  obtain ⟨_, _, _, o1⟩ := h0.oQ
  refine Ok.e (gOb_at o1) ?_
  refine Ok.e (gR_at o1 rfl) ?_
  refine Ok.e (gI_at o1 rfl) ?_
  refine Ok.e (gI_at o1 rfl) ?_
  refine Ok.b (h0.find rk3) (fun x4 _ => ?_)
  refine Ok.e (gI_at o1 rfl) ?_
  refine Ok.i (fun c2 => ?_) (fun c2 => ?_)
  · refine Ok.e gZ_1 ?_
    exact Ok.s (by first | exact Or.inl rfl | exact Or.inr rfl | assumption | exact And.left (by assumption))
  · refine Ok.e gZ_0 ?_
    exact Ok.s (by first | exact Or.inl rfl | exact Or.inr rfl | assumption | exact And.left (by assumption))
theorem pX8_takeNumber {v : Nat → Nat} {G0 G : gH} {b : Nat} {O : Nat → Nat → Int32} {P : Nat → Nat → Int64} {lo hi : Nat}  (h0 : Rch v G0 b O P lo hi G) : Ok (fun _ => True) (fX8_takeNumber v G (b + 25)) := by
  unfold fX8_takeNumber
  obtain ⟨_, _, _, o1⟩ := h0.oQ
  refine Ok.e (gOb_at o1) ?_
  refine Ok.e (gR_at o1 rfl) ?_
  refine Ok.e (gI_at o1 rfl) ?_
  refine Ok.e (gI_at o1 rfl) ?_
  refine Ok.b (h0.decimal rk3) (fun x4 _ => ?_)
  exact Ok.s trivial
theorem pX8_takeValue {v : Nat → Nat} {G0 G : gH} {b : Nat} {O : Nat → Nat → Int32} {P : Nat → Nat → Int64}  (h0 : Rch v G0 b O P 11 266 G) {ka : Nat} (hka : ka = 13 ∨ ka = 18) : Ok (fun r => (r.1 = 0 ∨ r.1 = 1) ∧ Rch v G0 b O P 11 266 r.2) (fX8_takeValue v G (b + 25) (b + ka)) := by
  unfold fX8_takeValue
  obtain ⟨_, _, _, o1⟩ := h0.oQ
  refine Ok.e (gOb_at o1) ?_
  refine Ok.b (pX8_isKey h0 (h0.strs ⟨by decide, by decide⟩)) (fun x1 h2 => ?_)
  refine Ok.i (fun c3 => ?_) (fun c3 => ?_)
  · refine Ok.b (pX8_isKey h0 (h0.strs ⟨by decide, by decide⟩)) (fun x4 h4 => ?_)
    refine Ok.i (fun c5 => ?_) (fun c5 => ?_)
    · refine Ok.b (pX8_isKey h0 (h0.strs ⟨by decide, by decide⟩)) (fun x7 h6 => ?_)
      refine Ok.i (fun c7 => ?_) (fun c7 => ?_)
      · refine Ok.b (pX8_isKey h0 (h0.strs ⟨by decide, by decide⟩)) (fun x10 h8 => ?_)
        refine Ok.i (fun c9 => ?_) (fun c9 => ?_)
        · refine Ok.b (pX8_isKey h0 (h0.strs ⟨by decide, by decide⟩)) (fun x13 h10 => ?_)
          refine Ok.i (fun c11 => ?_) (fun c11 => ?_)
          · refine Ok.b (pX8_isKey h0 (h0.strs ⟨by decide, by decide⟩)) (fun x16 h12 => ?_)
            refine Ok.i (fun c13 => ?_) (fun c13 => ?_)
            · refine Ok.e gZ_1 ?_
              exact Ok.s ⟨(by first | exact Or.inl rfl | exact Or.inr rfl | assumption | exact And.left (by assumption)), h0⟩
            · refine Ok.b (pX8_takeNumber h0 ) (fun x20 h14 => ?_)
              refine Ok.b (h0.pj (tj_A hka (Or.inr (Or.inr (Or.inl rfl)))) (by omega)) (fun G22 h15 => ?_)
              obtain ⟨_, _, _, _, _, _, o16⟩ := h15.oA hka
              refine Ok.e (gJ_at o16 rfl) ?_
              refine Ok.i (fun c17 => ?_) (fun c17 => ?_)
              · refine Ok.e gZ_0 ?_
                exact Ok.s ⟨(by first | exact Or.inl rfl | exact Or.inr rfl | assumption | exact And.left (by assumption)), h15⟩
              · refine Ok.e gZ_1 ?_
                exact Ok.s ⟨(by first | exact Or.inl rfl | exact Or.inr rfl | assumption | exact And.left (by assumption)), h15⟩
          · refine Ok.b (pX8_takeNumber h0 ) (fun x27 h18 => ?_)
            refine Ok.b (h0.pj (tj_A hka (Or.inr (Or.inl rfl))) (by omega)) (fun G29 h19 => ?_)
            obtain ⟨_, _, _, _, _, _, o20⟩ := h19.oA hka
            refine Ok.e (gJ_at o20 rfl) ?_
            refine Ok.i (fun c21 => ?_) (fun c21 => ?_)
            · refine Ok.e gZ_0 ?_
              exact Ok.s ⟨(by first | exact Or.inl rfl | exact Or.inr rfl | assumption | exact And.left (by assumption)), h19⟩
            · refine Ok.e gZ_1 ?_
              exact Ok.s ⟨(by first | exact Or.inl rfl | exact Or.inr rfl | assumption | exact And.left (by assumption)), h19⟩
        · refine Ok.b (pX8_takeNumber h0 ) (fun x34 h22 => ?_)
          refine Ok.b (h0.pj (tj_A hka (Or.inl rfl)) (by omega)) (fun G36 h23 => ?_)
          obtain ⟨_, _, _, _, _, _, o24⟩ := h23.oA hka
          refine Ok.e (gJ_at o24 rfl) ?_
          refine Ok.i (fun c25 => ?_) (fun c25 => ?_)
          · refine Ok.e gZ_0 ?_
            exact Ok.s ⟨(by first | exact Or.inl rfl | exact Or.inr rfl | assumption | exact And.left (by assumption)), h23⟩
          · refine Ok.e gZ_1 ?_
            exact Ok.s ⟨(by first | exact Or.inl rfl | exact Or.inr rfl | assumption | exact And.left (by assumption)), h23⟩
      · refine Ok.e (gR_at o1 rfl) ?_
        refine Ok.e (gI_at o1 rfl) ?_
        refine Ok.e (gI_at o1 rfl) ?_
        refine Ok.b (pX0_takeTime h0 (hka) (rk3)) (fun x44 h26 => ?_)
        refine Ok.e (gZ_ok (by first | assumption | exact And.left (by assumption))) ?_
        exact Ok.s ⟨(by first | exact Or.inl rfl | exact Or.inr rfl | assumption | exact And.left (by assumption)), h26.2⟩
    · refine Ok.b (pX8_hasNoZero h0 ) (fun x47 h27 => ?_)
      refine Ok.i (fun c28 => ?_) (fun c28 => ?_)
      · refine Ok.e gZ_0 ?_
        exact Ok.s ⟨(by first | exact Or.inl rfl | exact Or.inr rfl | assumption | exact And.left (by assumption)), h0⟩
      · obtain ⟨_, _, _, _, _, _, o29⟩ := h0.oA hka
        refine Ok.e (gR_at o29 rfl) ?_
        refine Ok.e (gR_at o1 rfl) ?_
        refine Ok.e (gI_at o1 rfl) ?_
        refine Ok.e (gI_at o1 rfl) ?_
        refine Ok.b ((s_become (h0.rs (rkA3 hka)) (h0.rs rk3) (by omega) _ _).w (fun _ q => And.intro q.1 (h0.ru (rkA3 hka) (by omega) q.2))) (fun x55 h30 => ?_)
        refine Ok.i (fun c31 => ?_) (fun c31 => ?_)
        · refine Ok.e gZ_0 ?_
          exact Ok.s ⟨(by first | exact Or.inl rfl | exact Or.inr rfl | assumption | exact And.left (by assumption)), h30.2⟩
        · refine Ok.e gZ_1 ?_
          exact Ok.s ⟨(by first | exact Or.inl rfl | exact Or.inr rfl | assumption | exact And.left (by assumption)), h30.2⟩
  · refine Ok.b (pX8_hasNoZero h0 ) (fun x60 h32 => ?_)
    refine Ok.i (fun c33 => ?_) (fun c33 => ?_)
    · refine Ok.e gZ_0 ?_
      exact Ok.s ⟨(by first | exact Or.inl rfl | exact Or.inr rfl | assumption | exact And.left (by assumption)), h0⟩
    · obtain ⟨_, _, _, _, _, _, o34⟩ := h0.oA hka
      refine Ok.e (gR_at o34 rfl) ?_
      refine Ok.e (gR_at o1 rfl) ?_
      refine Ok.e (gI_at o1 rfl) ?_
      refine Ok.e (gI_at o1 rfl) ?_
      refine Ok.b ((s_become (h0.rs (rkA1 hka)) (h0.rs rk3) (by omega) _ _).w (fun _ q => And.intro q.1 (h0.ru (rkA1 hka) (by omega) q.2))) (fun x68 h35 => ?_)
      refine Ok.i (fun c36 => ?_) (fun c36 => ?_)
      · refine Ok.e gZ_0 ?_
        exact Ok.s ⟨(by first | exact Or.inl rfl | exact Or.inr rfl | assumption | exact And.left (by assumption)), h35.2⟩
      · refine Ok.e gZ_1 ?_
        exact Ok.s ⟨(by first | exact Or.inl rfl | exact Or.inr rfl | assumption | exact And.left (by assumption)), h35.2⟩
theorem qX8_takeRows_6 {v : Nat → Nat} {G0 G : gH} {b : Nat} {O : Nat → Nat → Int32} {P : Nat → Nat → Int64} (h0 : Rch v G0 b O P 11 266 G) {ka : Nat} (hka : ka = 13 ∨ ka = 18)  : ∀ (n : Nat) (y3 : Int32) (y4 : Int32) (y5 : Int32), gap y5 y3 < n → Ok (fun r => (r.1 = 0 ∨ r.1 = 1) ∧ Rch v G0 b O P 11 266 r.2) (lX8_takeRows_6 v n G (b + 25) (b + ka) y3 y4 y5) := by
  have lp : ∀ (n : Nat) (G : gH) (y3 : Int32) (y4 : Int32) (y5 : Int32), Rch v G0 b O P 11 266 G → gap y5 y3 < n → Ok (fun r => (r.1 = 0 ∨ r.1 = 1) ∧ Rch v G0 b O P 11 266 r.2) (lX8_takeRows_6 v n G (b + 25) (b + ka) y3 y4 y5) := by
    intro n
    induction n with
    | zero => intro G y3 y4 y5 _ h; exact absurd h (Nat.not_lt_zero _)
    | succ n ih =>
      intro G y3 y4 y5 h0 hm
      show Ok _ (bX8_takeRows_6 v (lX8_takeRows_6 v n) G (b + 25) (b + ka) y3 y4 y5)
      unfold bX8_takeRows_6
      refine Ok.i (fun c1 => ?_) (fun c1 => ?_)
      · refine Ok.e gZ_1 ?_
        exact Ok.s ⟨(by first | exact Or.inl rfl | exact Or.inr rfl | assumption | exact And.left (by assumption)), h0⟩
      · refine Ok.i (fun c2 => ?_) (fun c2 => ?_)
        · refine Ok.e gZ_1 ?_
          exact Ok.s ⟨(by first | exact Or.inl rfl | exact Or.inr rfl | assumption | exact And.left (by assumption)), h0⟩
        · refine Ok.b (pX8_findParts h0 ) (fun x5 h3 => ?_)
          refine Ok.i (fun c4 => ?_) (fun c4 => ?_)
          · obtain ⟨_, _, _, o5⟩ := h3.2.oQ
            refine Ok.e (gR_at o5 rfl) ?_
            refine Ok.b (pX4_end h3.2 ) (fun x20 h6 => ?_)
            refine Ok.e gZ_0 ?_
            exact Ok.s ⟨(by first | exact Or.inl rfl | exact Or.inr rfl | assumption | exact And.left (by assumption)), h6⟩
          · refine Ok.b (pX8_takeValue h3.2 (hka)) (fun x8 h7 => ?_)
            refine Ok.i (fun c8 => ?_) (fun c8 => ?_)
            · obtain ⟨_, _, _, o9⟩ := h7.2.oQ
              refine Ok.e (gR_at o9 rfl) ?_
              refine Ok.e (gI_at o9 rfl) ?_
              refine Ok.b (pX4_end h7.2 ) (fun x16 h10 => ?_)
              refine Ok.e gZ_0 ?_
              exact Ok.s ⟨(by first | exact Or.inl rfl | exact Or.inr rfl | assumption | exact And.left (by assumption)), h10⟩
            · obtain ⟨_, _, _, o11⟩ := h7.2.oQ
              refine Ok.e (gI_at o11 rfl) ?_
              refine Ok.e rfl ?_
              refine Ok.e rfl ?_
              exact ih _ _ _ _ h7.2  (by first | exact gap_up (by assumption) hm | exact gap_up' (by assumption) hm | exact dist_dn (by assumption) hm | exact dist_dn (n1 (by assumption)) hm | exact dist_dn (n2 (by assumption)) hm | exact gap_up' (lt40 (by assumption) (by assumption)) hm | exact gap_up' (le40 (by assumption) (by assumption)) hm | exact gap_up' (lt65 (by assumption)) hm | exact div10 (by assumption) hm)
  intro n y3 y4 y5 hm
  exact lp n G y3 y4 y5 h0 hm
theorem pX8_takeRows {v : Nat → Nat} {G0 G : gH} {b : Nat} {O : Nat → Nat → Int32} {P : Nat → Nat → Int64} {a2 : Int32} {a3 : Int32} (h0 : Rch v G0 b O P 11 266 G) {ka : Nat} (hka : ka = 13 ∨ ka = 18) : Ok (fun r => (r.1 = 0 ∨ r.1 = 1) ∧ Rch v G0 b O P 11 266 r.2) (fX8_takeRows v G (b + 25) (b + ka) a2 a3) := by
  unfold fX8_takeRows
  obtain ⟨_, _, _, o1⟩ := h0.oQ
  refine Ok.e (gOb_at o1) ?_
  exact qX8_takeRows_6 h0 (hka) gFu _ _ _ (gap_fu _ _)
theorem pX1_takeLong {v : Nat → Nat} {G0 G : gH} {b : Nat} {O : Nat → Nat → Int32} {P : Nat → Nat → Int64} {a2 : Int32} {a3 : Int32} (h0 : Rch v G0 b O P 11 266 G) {kr : Nat} (hkr : rkB kr = true) (hlr : 11 ≤ kr ∧ kr + 2 ≤ 266) : Ok (fun r => (r.1 = 0 ∨ r.1 = 1) ∧ Rch v G0 b O P 11 266 r.2) (fX1_takeLong v G (b + 11) (b + kr) a2 a3) := by
  have hrlkr := rkB_lt hkr
  unfold fX1_takeLong
  obtain ⟨_, _, o1⟩ := h0.oD
  refine Ok.e (gOb_at o1) ?_
  refine Ok.e (gR_at o1 rfl) ?_
  refine Ok.e (gR_at o1 rfl) ?_
  refine Ok.b (h0.find rk3) (fun x3 _ => ?_)
  refine Ok.b ((s_become (h0.rs hkr) (h0.rs rk3) (by omega) _ _).w (fun _ q => And.intro q.1 (h0.ru hkr (by omega) q.2))) (fun x5 h2 => ?_)
  refine Ok.i (fun c3 => ?_) (fun c3 => ?_)
  · obtain ⟨_, _, o4⟩ := h2.2.oD
    refine Ok.e (gR_at o4 rfl) ?_
    refine Ok.b (pX4_end h2.2 ) (fun x10 h5 => ?_)
    refine Ok.e gZ_0 ?_
    exact Ok.s ⟨(by first | exact Or.inl rfl | exact Or.inr rfl | assumption | exact And.left (by assumption)), h5⟩
  · refine Ok.e gZ_1 ?_
    exact Ok.s ⟨(by first | exact Or.inl rfl | exact Or.inr rfl | assumption | exact And.left (by assumption)), h2.2⟩
theorem pX1_passHead {v : Nat → Nat} {G0 G : gH} {b : Nat} {O : Nat → Nat → Int32} {P : Nat → Nat → Int64} {a1 : Int32} (h0 : Rch v G0 b O P 11 266 G) : Ok (fun r => Rch v G0 b O P 11 266 r.2) (fX1_passHead v G (b + 11) a1) := by
  unfold fX1_passHead
  obtain ⟨_, _, o1⟩ := h0.oD
  refine Ok.e (gOb_at o1) ?_
  refine Ok.e (gR_at o1 rfl) ?_
  refine Ok.b (pX6_isSumRight h0 ) (fun x2 h2 => ?_)
  refine Ok.i (fun c3 => ?_) (fun c3 => ?_)
  · obtain ⟨_, _, o4⟩ := h2.2.oD
    refine Ok.e (gR_at o4 rfl) ?_
    refine Ok.b (pX4_end h2.2 ) (fun x20 h5 => ?_)
    exact Ok.s h5
  · obtain ⟨_, _, o6⟩ := h2.2.oD
    refine Ok.e (gR_at o6 rfl) ?_
    refine Ok.b (pX6_take h2.2 ) (fun x6 h7 => ?_)
    refine Ok.i (fun c8 => ?_) (fun c8 => ?_)
    · obtain ⟨_, _, o9⟩ := h7.oD
      refine Ok.e (gR_at o9 rfl) ?_
      refine Ok.b (h7.at_ rk3) (fun x10 _ => ?_)
      refine Ok.i (fun c10 => ?_) (fun c10 => ?_)
      · unfold jX1_passHead_80
        refine Ok.b (pX10_isEntryKind h7 ) (fun x1 h11 => ?_)
        refine Ok.i (fun c12 => ?_) (fun c12 => ?_)
        · refine Ok.b (pX1_isAheadKind h7 ) (fun x4 h13 => ?_)
          refine Ok.i (fun c14 => ?_) (fun c14 => ?_)
          · refine Ok.e (gR_at o9 rfl) ?_
            refine Ok.b (pX4_end h7 ) (fun x8 h15 => ?_)
            exact Ok.s h15
          · unfold jX1_passHead_114
            refine Ok.i (fun c16 => ?_) (fun c16 => ?_)
            · refine Ok.e (gR_at o9 rfl) ?_
              obtain ⟨_, _, _, _, _, _, o17⟩ := h7.oH
              refine Ok.e (gJ_at o17 rfl) ?_
              unfold jX1_passHead_153
              refine Ok.e rfl ?_
              refine Ok.e (gR_at o9 rfl) ?_
              refine Ok.b (h7.count rk3) (fun x3 hu18 => ?_)
              refine Ok.i (fun c19 => ?_) (fun c19 => ?_)
              · unfold jX1_passHead_198
                refine Ok.e (gR_at o9 rfl) ?_
                refine Ok.b (pX4_end h7 ) (fun x2 h20 => ?_)
                exact Ok.s h20
              · refine Ok.b (pX10_filled h7 ) (fun x6 h21 => ?_)
                refine Ok.e (gR_at o9 rfl) ?_
                refine Ok.b (h7.count rk3) (fun x9 hu22 => ?_)
                refine Ok.i (fun c23 => ?_) (fun c23 => ?_)
                · refine Ok.e rfl ?_
                  refine Ok.i (fun c24 => ?_) (fun c24 => ?_)
                  · refine Ok.i (fun c25 => ?_) (fun c25 => ?_)
                    · unfold jX1_passHead_247
                      refine Ok.e (gR_at o9 rfl) ?_
                      refine Ok.i (fun c26 => ?_) (fun c26 => ?_)
                      · refine Ok.e (gR_at o9 rfl) ?_
                        unfold jX1_passHead_268
                        refine Ok.b (pX8_takeRows h7 (hA13)) (fun x1 h27 => ?_)
                        unfold jX1_passHead_313
                        refine Ok.i (fun c28 => ?_) (fun c28 => ?_)
                        · exact Ok.s h27.2
                        · refine Ok.b (pX10_filled h27.2 ) (fun x2 h29 => ?_)
                          exact Ok.s h27.2
                      · refine Ok.e (gR_at o9 rfl) ?_
                        unfold jX1_passHead_268
                        refine Ok.b (pX8_takeRows h7 (hA18)) (fun x1 h30 => ?_)
                        unfold jX1_passHead_313
                        refine Ok.i (fun c31 => ?_) (fun c31 => ?_)
                        · exact Ok.s h30.2
                        · refine Ok.b (pX10_filled h30.2 ) (fun x2 h32 => ?_)
                          exact Ok.s h30.2
                    · refine Ok.i (fun c33 => ?_) (fun c33 => ?_)
                      · unfold jX1_passHead_247
                        refine Ok.e (gR_at o9 rfl) ?_
                        refine Ok.i (fun c34 => ?_) (fun c34 => ?_)
                        · refine Ok.e (gR_at o9 rfl) ?_
                          unfold jX1_passHead_268
                          refine Ok.b (pX8_takeRows h7 (hA13)) (fun x1 h35 => ?_)
                          unfold jX1_passHead_313
                          refine Ok.i (fun c36 => ?_) (fun c36 => ?_)
                          · exact Ok.s h35.2
                          · refine Ok.b (pX10_filled h35.2 ) (fun x2 h37 => ?_)
                            exact Ok.s h35.2
                        · refine Ok.e (gR_at o9 rfl) ?_
                          unfold jX1_passHead_268
                          refine Ok.b (pX8_takeRows h7 (hA18)) (fun x1 h38 => ?_)
                          unfold jX1_passHead_313
                          refine Ok.i (fun c39 => ?_) (fun c39 => ?_)
                          · exact Ok.s h38.2
                          · refine Ok.b (pX10_filled h38.2 ) (fun x2 h40 => ?_)
                            exact Ok.s h38.2
                      · refine Ok.i (fun c41 => ?_) (fun c41 => ?_)
                        · refine Ok.e (gR_at o9 rfl) ?_
                          obtain ⟨_, _, _, _, _, _, o42⟩ := h7.oA hA13
                          refine Ok.e (gR_at o42 rfl) ?_
                          unfold jX1_passHead_304
                          refine Ok.b (pX1_takeLong h7 ((rkA3 hA13)) (by omega)) (fun x1 h43 => ?_)
                          unfold jX1_passHead_313
                          refine Ok.i (fun c44 => ?_) (fun c44 => ?_)
                          · exact Ok.s h43.2
                          · refine Ok.b (pX10_filled h43.2 ) (fun x2 h45 => ?_)
                            exact Ok.s h43.2
                        · refine Ok.e (gR_at o9 rfl) ?_
                          obtain ⟨_, _, _, _, _, _, o46⟩ := h7.oA hA13
                          refine Ok.e (gR_at o46 rfl) ?_
                          unfold jX1_passHead_304
                          refine Ok.b (pX1_takeLong h7 ((rkA1 hA13)) (by omega)) (fun x1 h47 => ?_)
                          unfold jX1_passHead_313
                          refine Ok.i (fun c48 => ?_) (fun c48 => ?_)
                          · exact Ok.s h47.2
                          · refine Ok.b (pX10_filled h47.2 ) (fun x2 h49 => ?_)
                            exact Ok.s h47.2
                  · refine Ok.b (pX1_takeEntry h7 ) (fun x21 h50 => ?_)
                    unfold jX1_passHead_313
                    refine Ok.i (fun c51 => ?_) (fun c51 => ?_)
                    · exact Ok.s h50.2
                    · refine Ok.b (pX10_filled h50.2 ) (fun x2 h52 => ?_)
                      exact Ok.s h50.2
                · unfold jX1_passHead_198
                  refine Ok.e (gR_at o9 rfl) ?_
                  refine Ok.b (pX4_end h7 ) (fun x2 h53 => ?_)
                  exact Ok.s h53
            · refine Ok.e (gR_at o9 rfl) ?_
              obtain ⟨_, _, _, _, _, _, o54⟩ := h7.oA hA13
              refine Ok.e (gJ_at o54 rfl) ?_
              refine Ok.e (gR_at o9 rfl) ?_
              obtain ⟨_, _, _, _, _, _, o55⟩ := h7.oA hA18
              refine Ok.e (gJ_at o55 rfl) ?_
              refine Ok.e (gR_at o9 rfl) ?_
              obtain ⟨_, _, _, _, _, _, o56⟩ := h7.oH
              refine Ok.e (gJ_at o56 rfl) ?_
              refine Ok.b (pX1_pick h7 ) (fun x10 h57 => ?_)
              unfold jX1_passHead_153
              refine Ok.e rfl ?_
              refine Ok.e (gR_at o9 rfl) ?_
              refine Ok.b (h7.count rk3) (fun x3 hu58 => ?_)
              refine Ok.i (fun c59 => ?_) (fun c59 => ?_)
              · unfold jX1_passHead_198
                refine Ok.e (gR_at o9 rfl) ?_
                refine Ok.b (pX4_end h7 ) (fun x2 h60 => ?_)
                exact Ok.s h60
              · refine Ok.b (pX10_filled h7 ) (fun x6 h61 => ?_)
                refine Ok.e (gR_at o9 rfl) ?_
                refine Ok.b (h7.count rk3) (fun x9 hu62 => ?_)
                refine Ok.i (fun c63 => ?_) (fun c63 => ?_)
                · refine Ok.e rfl ?_
                  refine Ok.i (fun c64 => ?_) (fun c64 => ?_)
                  · refine Ok.i (fun c65 => ?_) (fun c65 => ?_)
                    · unfold jX1_passHead_247
                      refine Ok.e (gR_at o9 rfl) ?_
                      refine Ok.i (fun c66 => ?_) (fun c66 => ?_)
                      · refine Ok.e (gR_at o9 rfl) ?_
                        unfold jX1_passHead_268
                        refine Ok.b (pX8_takeRows h7 (hA13)) (fun x1 h67 => ?_)
                        unfold jX1_passHead_313
                        refine Ok.i (fun c68 => ?_) (fun c68 => ?_)
                        · exact Ok.s h67.2
                        · refine Ok.b (pX10_filled h67.2 ) (fun x2 h69 => ?_)
                          exact Ok.s h67.2
                      · refine Ok.e (gR_at o9 rfl) ?_
                        unfold jX1_passHead_268
                        refine Ok.b (pX8_takeRows h7 (hA18)) (fun x1 h70 => ?_)
                        unfold jX1_passHead_313
                        refine Ok.i (fun c71 => ?_) (fun c71 => ?_)
                        · exact Ok.s h70.2
                        · refine Ok.b (pX10_filled h70.2 ) (fun x2 h72 => ?_)
                          exact Ok.s h70.2
                    · refine Ok.i (fun c73 => ?_) (fun c73 => ?_)
                      · unfold jX1_passHead_247
                        refine Ok.e (gR_at o9 rfl) ?_
                        refine Ok.i (fun c74 => ?_) (fun c74 => ?_)
                        · refine Ok.e (gR_at o9 rfl) ?_
                          unfold jX1_passHead_268
                          refine Ok.b (pX8_takeRows h7 (hA13)) (fun x1 h75 => ?_)
                          unfold jX1_passHead_313
                          refine Ok.i (fun c76 => ?_) (fun c76 => ?_)
                          · exact Ok.s h75.2
                          · refine Ok.b (pX10_filled h75.2 ) (fun x2 h77 => ?_)
                            exact Ok.s h75.2
                        · refine Ok.e (gR_at o9 rfl) ?_
                          unfold jX1_passHead_268
                          refine Ok.b (pX8_takeRows h7 (hA18)) (fun x1 h78 => ?_)
                          unfold jX1_passHead_313
                          refine Ok.i (fun c79 => ?_) (fun c79 => ?_)
                          · exact Ok.s h78.2
                          · refine Ok.b (pX10_filled h78.2 ) (fun x2 h80 => ?_)
                            exact Ok.s h78.2
                      · refine Ok.i (fun c81 => ?_) (fun c81 => ?_)
                        · refine Ok.e (gR_at o9 rfl) ?_
                          refine Ok.e (gR_at o54 rfl) ?_
                          unfold jX1_passHead_304
                          refine Ok.b (pX1_takeLong h7 ((rkA3 hA13)) (by omega)) (fun x1 h82 => ?_)
                          unfold jX1_passHead_313
                          refine Ok.i (fun c83 => ?_) (fun c83 => ?_)
                          · exact Ok.s h82.2
                          · refine Ok.b (pX10_filled h82.2 ) (fun x2 h84 => ?_)
                            exact Ok.s h82.2
                        · refine Ok.e (gR_at o9 rfl) ?_
                          refine Ok.e (gR_at o54 rfl) ?_
                          unfold jX1_passHead_304
                          refine Ok.b (pX1_takeLong h7 ((rkA1 hA13)) (by omega)) (fun x1 h85 => ?_)
                          unfold jX1_passHead_313
                          refine Ok.i (fun c86 => ?_) (fun c86 => ?_)
                          · exact Ok.s h85.2
                          · refine Ok.b (pX10_filled h85.2 ) (fun x2 h87 => ?_)
                            exact Ok.s h85.2
                  · refine Ok.b (pX1_takeEntry h7 ) (fun x21 h88 => ?_)
                    unfold jX1_passHead_313
                    refine Ok.i (fun c89 => ?_) (fun c89 => ?_)
                    · exact Ok.s h88.2
                    · refine Ok.b (pX10_filled h88.2 ) (fun x2 h90 => ?_)
                      exact Ok.s h88.2
                · unfold jX1_passHead_198
                  refine Ok.e (gR_at o9 rfl) ?_
                  refine Ok.b (pX4_end h7 ) (fun x2 h91 => ?_)
                  exact Ok.s h91
        · unfold jX1_passHead_114
          refine Ok.i (fun c92 => ?_) (fun c92 => ?_)
          · refine Ok.e (gR_at o9 rfl) ?_
            obtain ⟨_, _, _, _, _, _, o93⟩ := h7.oH
            refine Ok.e (gJ_at o93 rfl) ?_
            unfold jX1_passHead_153
            refine Ok.e rfl ?_
            refine Ok.e (gR_at o9 rfl) ?_
            refine Ok.b (h7.count rk3) (fun x3 hu94 => ?_)
            refine Ok.i (fun c95 => ?_) (fun c95 => ?_)
            · unfold jX1_passHead_198
              refine Ok.e (gR_at o9 rfl) ?_
              refine Ok.b (pX4_end h7 ) (fun x2 h96 => ?_)
              exact Ok.s h96
            · refine Ok.b (pX10_filled h7 ) (fun x6 h97 => ?_)
              refine Ok.e (gR_at o9 rfl) ?_
              refine Ok.b (h7.count rk3) (fun x9 hu98 => ?_)
              refine Ok.i (fun c99 => ?_) (fun c99 => ?_)
              · refine Ok.e rfl ?_
                refine Ok.i (fun c100 => ?_) (fun c100 => ?_)
                · refine Ok.i (fun c101 => ?_) (fun c101 => ?_)
                  · unfold jX1_passHead_247
                    refine Ok.e (gR_at o9 rfl) ?_
                    refine Ok.i (fun c102 => ?_) (fun c102 => ?_)
                    · refine Ok.e (gR_at o9 rfl) ?_
                      unfold jX1_passHead_268
                      refine Ok.b (pX8_takeRows h7 (hA13)) (fun x1 h103 => ?_)
                      unfold jX1_passHead_313
                      refine Ok.i (fun c104 => ?_) (fun c104 => ?_)
                      · exact Ok.s h103.2
                      · refine Ok.b (pX10_filled h103.2 ) (fun x2 h105 => ?_)
                        exact Ok.s h103.2
                    · refine Ok.e (gR_at o9 rfl) ?_
                      unfold jX1_passHead_268
                      refine Ok.b (pX8_takeRows h7 (hA18)) (fun x1 h106 => ?_)
                      unfold jX1_passHead_313
                      refine Ok.i (fun c107 => ?_) (fun c107 => ?_)
                      · exact Ok.s h106.2
                      · refine Ok.b (pX10_filled h106.2 ) (fun x2 h108 => ?_)
                        exact Ok.s h106.2
                  · refine Ok.i (fun c109 => ?_) (fun c109 => ?_)
                    · unfold jX1_passHead_247
                      refine Ok.e (gR_at o9 rfl) ?_
                      refine Ok.i (fun c110 => ?_) (fun c110 => ?_)
                      · refine Ok.e (gR_at o9 rfl) ?_
                        unfold jX1_passHead_268
                        refine Ok.b (pX8_takeRows h7 (hA13)) (fun x1 h111 => ?_)
                        unfold jX1_passHead_313
                        refine Ok.i (fun c112 => ?_) (fun c112 => ?_)
                        · exact Ok.s h111.2
                        · refine Ok.b (pX10_filled h111.2 ) (fun x2 h113 => ?_)
                          exact Ok.s h111.2
                      · refine Ok.e (gR_at o9 rfl) ?_
                        unfold jX1_passHead_268
                        refine Ok.b (pX8_takeRows h7 (hA18)) (fun x1 h114 => ?_)
                        unfold jX1_passHead_313
                        refine Ok.i (fun c115 => ?_) (fun c115 => ?_)
                        · exact Ok.s h114.2
                        · refine Ok.b (pX10_filled h114.2 ) (fun x2 h116 => ?_)
                          exact Ok.s h114.2
                    · refine Ok.i (fun c117 => ?_) (fun c117 => ?_)
                      · refine Ok.e (gR_at o9 rfl) ?_
                        obtain ⟨_, _, _, _, _, _, o118⟩ := h7.oA hA13
                        refine Ok.e (gR_at o118 rfl) ?_
                        unfold jX1_passHead_304
                        refine Ok.b (pX1_takeLong h7 ((rkA3 hA13)) (by omega)) (fun x1 h119 => ?_)
                        unfold jX1_passHead_313
                        refine Ok.i (fun c120 => ?_) (fun c120 => ?_)
                        · exact Ok.s h119.2
                        · refine Ok.b (pX10_filled h119.2 ) (fun x2 h121 => ?_)
                          exact Ok.s h119.2
                      · refine Ok.e (gR_at o9 rfl) ?_
                        obtain ⟨_, _, _, _, _, _, o122⟩ := h7.oA hA13
                        refine Ok.e (gR_at o122 rfl) ?_
                        unfold jX1_passHead_304
                        refine Ok.b (pX1_takeLong h7 ((rkA1 hA13)) (by omega)) (fun x1 h123 => ?_)
                        unfold jX1_passHead_313
                        refine Ok.i (fun c124 => ?_) (fun c124 => ?_)
                        · exact Ok.s h123.2
                        · refine Ok.b (pX10_filled h123.2 ) (fun x2 h125 => ?_)
                          exact Ok.s h123.2
                · refine Ok.b (pX1_takeEntry h7 ) (fun x21 h126 => ?_)
                  unfold jX1_passHead_313
                  refine Ok.i (fun c127 => ?_) (fun c127 => ?_)
                  · exact Ok.s h126.2
                  · refine Ok.b (pX10_filled h126.2 ) (fun x2 h128 => ?_)
                    exact Ok.s h126.2
              · unfold jX1_passHead_198
                refine Ok.e (gR_at o9 rfl) ?_
                refine Ok.b (pX4_end h7 ) (fun x2 h129 => ?_)
                exact Ok.s h129
          · refine Ok.e (gR_at o9 rfl) ?_
            obtain ⟨_, _, _, _, _, _, o130⟩ := h7.oA hA13
            refine Ok.e (gJ_at o130 rfl) ?_
            refine Ok.e (gR_at o9 rfl) ?_
            obtain ⟨_, _, _, _, _, _, o131⟩ := h7.oA hA18
            refine Ok.e (gJ_at o131 rfl) ?_
            refine Ok.e (gR_at o9 rfl) ?_
            obtain ⟨_, _, _, _, _, _, o132⟩ := h7.oH
            refine Ok.e (gJ_at o132 rfl) ?_
            refine Ok.b (pX1_pick h7 ) (fun x10 h133 => ?_)
            unfold jX1_passHead_153
            refine Ok.e rfl ?_
            refine Ok.e (gR_at o9 rfl) ?_
            refine Ok.b (h7.count rk3) (fun x3 hu134 => ?_)
            refine Ok.i (fun c135 => ?_) (fun c135 => ?_)
            · unfold jX1_passHead_198
              refine Ok.e (gR_at o9 rfl) ?_
              refine Ok.b (pX4_end h7 ) (fun x2 h136 => ?_)
              exact Ok.s h136
            · refine Ok.b (pX10_filled h7 ) (fun x6 h137 => ?_)
              refine Ok.e (gR_at o9 rfl) ?_
              refine Ok.b (h7.count rk3) (fun x9 hu138 => ?_)
              refine Ok.i (fun c139 => ?_) (fun c139 => ?_)
              · refine Ok.e rfl ?_
                refine Ok.i (fun c140 => ?_) (fun c140 => ?_)
                · refine Ok.i (fun c141 => ?_) (fun c141 => ?_)
                  · unfold jX1_passHead_247
                    refine Ok.e (gR_at o9 rfl) ?_
                    refine Ok.i (fun c142 => ?_) (fun c142 => ?_)
                    · refine Ok.e (gR_at o9 rfl) ?_
                      unfold jX1_passHead_268
                      refine Ok.b (pX8_takeRows h7 (hA13)) (fun x1 h143 => ?_)
                      unfold jX1_passHead_313
                      refine Ok.i (fun c144 => ?_) (fun c144 => ?_)
                      · exact Ok.s h143.2
                      · refine Ok.b (pX10_filled h143.2 ) (fun x2 h145 => ?_)
                        exact Ok.s h143.2
                    · refine Ok.e (gR_at o9 rfl) ?_
                      unfold jX1_passHead_268
                      refine Ok.b (pX8_takeRows h7 (hA18)) (fun x1 h146 => ?_)
                      unfold jX1_passHead_313
                      refine Ok.i (fun c147 => ?_) (fun c147 => ?_)
                      · exact Ok.s h146.2
                      · refine Ok.b (pX10_filled h146.2 ) (fun x2 h148 => ?_)
                        exact Ok.s h146.2
                  · refine Ok.i (fun c149 => ?_) (fun c149 => ?_)
                    · unfold jX1_passHead_247
                      refine Ok.e (gR_at o9 rfl) ?_
                      refine Ok.i (fun c150 => ?_) (fun c150 => ?_)
                      · refine Ok.e (gR_at o9 rfl) ?_
                        unfold jX1_passHead_268
                        refine Ok.b (pX8_takeRows h7 (hA13)) (fun x1 h151 => ?_)
                        unfold jX1_passHead_313
                        refine Ok.i (fun c152 => ?_) (fun c152 => ?_)
                        · exact Ok.s h151.2
                        · refine Ok.b (pX10_filled h151.2 ) (fun x2 h153 => ?_)
                          exact Ok.s h151.2
                      · refine Ok.e (gR_at o9 rfl) ?_
                        unfold jX1_passHead_268
                        refine Ok.b (pX8_takeRows h7 (hA18)) (fun x1 h154 => ?_)
                        unfold jX1_passHead_313
                        refine Ok.i (fun c155 => ?_) (fun c155 => ?_)
                        · exact Ok.s h154.2
                        · refine Ok.b (pX10_filled h154.2 ) (fun x2 h156 => ?_)
                          exact Ok.s h154.2
                    · refine Ok.i (fun c157 => ?_) (fun c157 => ?_)
                      · refine Ok.e (gR_at o9 rfl) ?_
                        refine Ok.e (gR_at o130 rfl) ?_
                        unfold jX1_passHead_304
                        refine Ok.b (pX1_takeLong h7 ((rkA3 hA13)) (by omega)) (fun x1 h158 => ?_)
                        unfold jX1_passHead_313
                        refine Ok.i (fun c159 => ?_) (fun c159 => ?_)
                        · exact Ok.s h158.2
                        · refine Ok.b (pX10_filled h158.2 ) (fun x2 h160 => ?_)
                          exact Ok.s h158.2
                      · refine Ok.e (gR_at o9 rfl) ?_
                        refine Ok.e (gR_at o130 rfl) ?_
                        unfold jX1_passHead_304
                        refine Ok.b (pX1_takeLong h7 ((rkA1 hA13)) (by omega)) (fun x1 h161 => ?_)
                        unfold jX1_passHead_313
                        refine Ok.i (fun c162 => ?_) (fun c162 => ?_)
                        · exact Ok.s h161.2
                        · refine Ok.b (pX10_filled h161.2 ) (fun x2 h163 => ?_)
                          exact Ok.s h161.2
                · refine Ok.b (pX1_takeEntry h7 ) (fun x21 h164 => ?_)
                  unfold jX1_passHead_313
                  refine Ok.i (fun c165 => ?_) (fun c165 => ?_)
                  · exact Ok.s h164.2
                  · refine Ok.b (pX10_filled h164.2 ) (fun x2 h166 => ?_)
                    exact Ok.s h164.2
              · unfold jX1_passHead_198
                refine Ok.e (gR_at o9 rfl) ?_
                refine Ok.b (pX4_end h7 ) (fun x2 h167 => ?_)
                exact Ok.s h167
      · refine Ok.e (gR_at o9 rfl) ?_
        refine Ok.b (h7.at_ rk3) (fun x14 _ => ?_)
        unfold jX1_passHead_80
        refine Ok.b (pX10_isEntryKind h7 ) (fun x1 h168 => ?_)
        refine Ok.i (fun c169 => ?_) (fun c169 => ?_)
        · refine Ok.b (pX1_isAheadKind h7 ) (fun x4 h170 => ?_)
          refine Ok.i (fun c171 => ?_) (fun c171 => ?_)
          · refine Ok.e (gR_at o9 rfl) ?_
            refine Ok.b (pX4_end h7 ) (fun x8 h172 => ?_)
            exact Ok.s h172
          · unfold jX1_passHead_114
            refine Ok.i (fun c173 => ?_) (fun c173 => ?_)
            · refine Ok.e (gR_at o9 rfl) ?_
              obtain ⟨_, _, _, _, _, _, o174⟩ := h7.oH
              refine Ok.e (gJ_at o174 rfl) ?_
              unfold jX1_passHead_153
              refine Ok.e rfl ?_
              refine Ok.e (gR_at o9 rfl) ?_
              refine Ok.b (h7.count rk3) (fun x3 hu175 => ?_)
              refine Ok.i (fun c176 => ?_) (fun c176 => ?_)
              · unfold jX1_passHead_198
                refine Ok.e (gR_at o9 rfl) ?_
                refine Ok.b (pX4_end h7 ) (fun x2 h177 => ?_)
                exact Ok.s h177
              · refine Ok.b (pX10_filled h7 ) (fun x6 h178 => ?_)
                refine Ok.e (gR_at o9 rfl) ?_
                refine Ok.b (h7.count rk3) (fun x9 hu179 => ?_)
                refine Ok.i (fun c180 => ?_) (fun c180 => ?_)
                · refine Ok.e rfl ?_
                  refine Ok.i (fun c181 => ?_) (fun c181 => ?_)
                  · refine Ok.i (fun c182 => ?_) (fun c182 => ?_)
                    · unfold jX1_passHead_247
                      refine Ok.e (gR_at o9 rfl) ?_
                      refine Ok.i (fun c183 => ?_) (fun c183 => ?_)
                      · refine Ok.e (gR_at o9 rfl) ?_
                        unfold jX1_passHead_268
                        refine Ok.b (pX8_takeRows h7 (hA13)) (fun x1 h184 => ?_)
                        unfold jX1_passHead_313
                        refine Ok.i (fun c185 => ?_) (fun c185 => ?_)
                        · exact Ok.s h184.2
                        · refine Ok.b (pX10_filled h184.2 ) (fun x2 h186 => ?_)
                          exact Ok.s h184.2
                      · refine Ok.e (gR_at o9 rfl) ?_
                        unfold jX1_passHead_268
                        refine Ok.b (pX8_takeRows h7 (hA18)) (fun x1 h187 => ?_)
                        unfold jX1_passHead_313
                        refine Ok.i (fun c188 => ?_) (fun c188 => ?_)
                        · exact Ok.s h187.2
                        · refine Ok.b (pX10_filled h187.2 ) (fun x2 h189 => ?_)
                          exact Ok.s h187.2
                    · refine Ok.i (fun c190 => ?_) (fun c190 => ?_)
                      · unfold jX1_passHead_247
                        refine Ok.e (gR_at o9 rfl) ?_
                        refine Ok.i (fun c191 => ?_) (fun c191 => ?_)
                        · refine Ok.e (gR_at o9 rfl) ?_
                          unfold jX1_passHead_268
                          refine Ok.b (pX8_takeRows h7 (hA13)) (fun x1 h192 => ?_)
                          unfold jX1_passHead_313
                          refine Ok.i (fun c193 => ?_) (fun c193 => ?_)
                          · exact Ok.s h192.2
                          · refine Ok.b (pX10_filled h192.2 ) (fun x2 h194 => ?_)
                            exact Ok.s h192.2
                        · refine Ok.e (gR_at o9 rfl) ?_
                          unfold jX1_passHead_268
                          refine Ok.b (pX8_takeRows h7 (hA18)) (fun x1 h195 => ?_)
                          unfold jX1_passHead_313
                          refine Ok.i (fun c196 => ?_) (fun c196 => ?_)
                          · exact Ok.s h195.2
                          · refine Ok.b (pX10_filled h195.2 ) (fun x2 h197 => ?_)
                            exact Ok.s h195.2
                      · refine Ok.i (fun c198 => ?_) (fun c198 => ?_)
                        · refine Ok.e (gR_at o9 rfl) ?_
                          obtain ⟨_, _, _, _, _, _, o199⟩ := h7.oA hA13
                          refine Ok.e (gR_at o199 rfl) ?_
                          unfold jX1_passHead_304
                          refine Ok.b (pX1_takeLong h7 ((rkA3 hA13)) (by omega)) (fun x1 h200 => ?_)
                          unfold jX1_passHead_313
                          refine Ok.i (fun c201 => ?_) (fun c201 => ?_)
                          · exact Ok.s h200.2
                          · refine Ok.b (pX10_filled h200.2 ) (fun x2 h202 => ?_)
                            exact Ok.s h200.2
                        · refine Ok.e (gR_at o9 rfl) ?_
                          obtain ⟨_, _, _, _, _, _, o203⟩ := h7.oA hA13
                          refine Ok.e (gR_at o203 rfl) ?_
                          unfold jX1_passHead_304
                          refine Ok.b (pX1_takeLong h7 ((rkA1 hA13)) (by omega)) (fun x1 h204 => ?_)
                          unfold jX1_passHead_313
                          refine Ok.i (fun c205 => ?_) (fun c205 => ?_)
                          · exact Ok.s h204.2
                          · refine Ok.b (pX10_filled h204.2 ) (fun x2 h206 => ?_)
                            exact Ok.s h204.2
                  · refine Ok.b (pX1_takeEntry h7 ) (fun x21 h207 => ?_)
                    unfold jX1_passHead_313
                    refine Ok.i (fun c208 => ?_) (fun c208 => ?_)
                    · exact Ok.s h207.2
                    · refine Ok.b (pX10_filled h207.2 ) (fun x2 h209 => ?_)
                      exact Ok.s h207.2
                · unfold jX1_passHead_198
                  refine Ok.e (gR_at o9 rfl) ?_
                  refine Ok.b (pX4_end h7 ) (fun x2 h210 => ?_)
                  exact Ok.s h210
            · refine Ok.e (gR_at o9 rfl) ?_
              obtain ⟨_, _, _, _, _, _, o211⟩ := h7.oA hA13
              refine Ok.e (gJ_at o211 rfl) ?_
              refine Ok.e (gR_at o9 rfl) ?_
              obtain ⟨_, _, _, _, _, _, o212⟩ := h7.oA hA18
              refine Ok.e (gJ_at o212 rfl) ?_
              refine Ok.e (gR_at o9 rfl) ?_
              obtain ⟨_, _, _, _, _, _, o213⟩ := h7.oH
              refine Ok.e (gJ_at o213 rfl) ?_
              refine Ok.b (pX1_pick h7 ) (fun x10 h214 => ?_)
              unfold jX1_passHead_153
              refine Ok.e rfl ?_
              refine Ok.e (gR_at o9 rfl) ?_
              refine Ok.b (h7.count rk3) (fun x3 hu215 => ?_)
              refine Ok.i (fun c216 => ?_) (fun c216 => ?_)
              · unfold jX1_passHead_198
                refine Ok.e (gR_at o9 rfl) ?_
                refine Ok.b (pX4_end h7 ) (fun x2 h217 => ?_)
                exact Ok.s h217
              · refine Ok.b (pX10_filled h7 ) (fun x6 h218 => ?_)
                refine Ok.e (gR_at o9 rfl) ?_
                refine Ok.b (h7.count rk3) (fun x9 hu219 => ?_)
                refine Ok.i (fun c220 => ?_) (fun c220 => ?_)
                · refine Ok.e rfl ?_
                  refine Ok.i (fun c221 => ?_) (fun c221 => ?_)
                  · refine Ok.i (fun c222 => ?_) (fun c222 => ?_)
                    · unfold jX1_passHead_247
                      refine Ok.e (gR_at o9 rfl) ?_
                      refine Ok.i (fun c223 => ?_) (fun c223 => ?_)
                      · refine Ok.e (gR_at o9 rfl) ?_
                        unfold jX1_passHead_268
                        refine Ok.b (pX8_takeRows h7 (hA13)) (fun x1 h224 => ?_)
                        unfold jX1_passHead_313
                        refine Ok.i (fun c225 => ?_) (fun c225 => ?_)
                        · exact Ok.s h224.2
                        · refine Ok.b (pX10_filled h224.2 ) (fun x2 h226 => ?_)
                          exact Ok.s h224.2
                      · refine Ok.e (gR_at o9 rfl) ?_
                        unfold jX1_passHead_268
                        refine Ok.b (pX8_takeRows h7 (hA18)) (fun x1 h227 => ?_)
                        unfold jX1_passHead_313
                        refine Ok.i (fun c228 => ?_) (fun c228 => ?_)
                        · exact Ok.s h227.2
                        · refine Ok.b (pX10_filled h227.2 ) (fun x2 h229 => ?_)
                          exact Ok.s h227.2
                    · refine Ok.i (fun c230 => ?_) (fun c230 => ?_)
                      · unfold jX1_passHead_247
                        refine Ok.e (gR_at o9 rfl) ?_
                        refine Ok.i (fun c231 => ?_) (fun c231 => ?_)
                        · refine Ok.e (gR_at o9 rfl) ?_
                          unfold jX1_passHead_268
                          refine Ok.b (pX8_takeRows h7 (hA13)) (fun x1 h232 => ?_)
                          unfold jX1_passHead_313
                          refine Ok.i (fun c233 => ?_) (fun c233 => ?_)
                          · exact Ok.s h232.2
                          · refine Ok.b (pX10_filled h232.2 ) (fun x2 h234 => ?_)
                            exact Ok.s h232.2
                        · refine Ok.e (gR_at o9 rfl) ?_
                          unfold jX1_passHead_268
                          refine Ok.b (pX8_takeRows h7 (hA18)) (fun x1 h235 => ?_)
                          unfold jX1_passHead_313
                          refine Ok.i (fun c236 => ?_) (fun c236 => ?_)
                          · exact Ok.s h235.2
                          · refine Ok.b (pX10_filled h235.2 ) (fun x2 h237 => ?_)
                            exact Ok.s h235.2
                      · refine Ok.i (fun c238 => ?_) (fun c238 => ?_)
                        · refine Ok.e (gR_at o9 rfl) ?_
                          refine Ok.e (gR_at o211 rfl) ?_
                          unfold jX1_passHead_304
                          refine Ok.b (pX1_takeLong h7 ((rkA3 hA13)) (by omega)) (fun x1 h239 => ?_)
                          unfold jX1_passHead_313
                          refine Ok.i (fun c240 => ?_) (fun c240 => ?_)
                          · exact Ok.s h239.2
                          · refine Ok.b (pX10_filled h239.2 ) (fun x2 h241 => ?_)
                            exact Ok.s h239.2
                        · refine Ok.e (gR_at o9 rfl) ?_
                          refine Ok.e (gR_at o211 rfl) ?_
                          unfold jX1_passHead_304
                          refine Ok.b (pX1_takeLong h7 ((rkA1 hA13)) (by omega)) (fun x1 h242 => ?_)
                          unfold jX1_passHead_313
                          refine Ok.i (fun c243 => ?_) (fun c243 => ?_)
                          · exact Ok.s h242.2
                          · refine Ok.b (pX10_filled h242.2 ) (fun x2 h244 => ?_)
                            exact Ok.s h242.2
                  · refine Ok.b (pX1_takeEntry h7 ) (fun x21 h245 => ?_)
                    unfold jX1_passHead_313
                    refine Ok.i (fun c246 => ?_) (fun c246 => ?_)
                    · exact Ok.s h245.2
                    · refine Ok.b (pX10_filled h245.2 ) (fun x2 h247 => ?_)
                      exact Ok.s h245.2
                · unfold jX1_passHead_198
                  refine Ok.e (gR_at o9 rfl) ?_
                  refine Ok.b (pX4_end h7 ) (fun x2 h248 => ?_)
                  exact Ok.s h248
        · unfold jX1_passHead_114
          refine Ok.i (fun c249 => ?_) (fun c249 => ?_)
          · refine Ok.e (gR_at o9 rfl) ?_
            obtain ⟨_, _, _, _, _, _, o250⟩ := h7.oH
            refine Ok.e (gJ_at o250 rfl) ?_
            unfold jX1_passHead_153
            refine Ok.e rfl ?_
            refine Ok.e (gR_at o9 rfl) ?_
            refine Ok.b (h7.count rk3) (fun x3 hu251 => ?_)
            refine Ok.i (fun c252 => ?_) (fun c252 => ?_)
            · unfold jX1_passHead_198
              refine Ok.e (gR_at o9 rfl) ?_
              refine Ok.b (pX4_end h7 ) (fun x2 h253 => ?_)
              exact Ok.s h253
            · refine Ok.b (pX10_filled h7 ) (fun x6 h254 => ?_)
              refine Ok.e (gR_at o9 rfl) ?_
              refine Ok.b (h7.count rk3) (fun x9 hu255 => ?_)
              refine Ok.i (fun c256 => ?_) (fun c256 => ?_)
              · refine Ok.e rfl ?_
                refine Ok.i (fun c257 => ?_) (fun c257 => ?_)
                · refine Ok.i (fun c258 => ?_) (fun c258 => ?_)
                  · unfold jX1_passHead_247
                    refine Ok.e (gR_at o9 rfl) ?_
                    refine Ok.i (fun c259 => ?_) (fun c259 => ?_)
                    · refine Ok.e (gR_at o9 rfl) ?_
                      unfold jX1_passHead_268
                      refine Ok.b (pX8_takeRows h7 (hA13)) (fun x1 h260 => ?_)
                      unfold jX1_passHead_313
                      refine Ok.i (fun c261 => ?_) (fun c261 => ?_)
                      · exact Ok.s h260.2
                      · refine Ok.b (pX10_filled h260.2 ) (fun x2 h262 => ?_)
                        exact Ok.s h260.2
                    · refine Ok.e (gR_at o9 rfl) ?_
                      unfold jX1_passHead_268
                      refine Ok.b (pX8_takeRows h7 (hA18)) (fun x1 h263 => ?_)
                      unfold jX1_passHead_313
                      refine Ok.i (fun c264 => ?_) (fun c264 => ?_)
                      · exact Ok.s h263.2
                      · refine Ok.b (pX10_filled h263.2 ) (fun x2 h265 => ?_)
                        exact Ok.s h263.2
                  · refine Ok.i (fun c266 => ?_) (fun c266 => ?_)
                    · unfold jX1_passHead_247
                      refine Ok.e (gR_at o9 rfl) ?_
                      refine Ok.i (fun c267 => ?_) (fun c267 => ?_)
                      · refine Ok.e (gR_at o9 rfl) ?_
                        unfold jX1_passHead_268
                        refine Ok.b (pX8_takeRows h7 (hA13)) (fun x1 h268 => ?_)
                        unfold jX1_passHead_313
                        refine Ok.i (fun c269 => ?_) (fun c269 => ?_)
                        · exact Ok.s h268.2
                        · refine Ok.b (pX10_filled h268.2 ) (fun x2 h270 => ?_)
                          exact Ok.s h268.2
                      · refine Ok.e (gR_at o9 rfl) ?_
                        unfold jX1_passHead_268
                        refine Ok.b (pX8_takeRows h7 (hA18)) (fun x1 h271 => ?_)
                        unfold jX1_passHead_313
                        refine Ok.i (fun c272 => ?_) (fun c272 => ?_)
                        · exact Ok.s h271.2
                        · refine Ok.b (pX10_filled h271.2 ) (fun x2 h273 => ?_)
                          exact Ok.s h271.2
                    · refine Ok.i (fun c274 => ?_) (fun c274 => ?_)
                      · refine Ok.e (gR_at o9 rfl) ?_
                        obtain ⟨_, _, _, _, _, _, o275⟩ := h7.oA hA13
                        refine Ok.e (gR_at o275 rfl) ?_
                        unfold jX1_passHead_304
                        refine Ok.b (pX1_takeLong h7 ((rkA3 hA13)) (by omega)) (fun x1 h276 => ?_)
                        unfold jX1_passHead_313
                        refine Ok.i (fun c277 => ?_) (fun c277 => ?_)
                        · exact Ok.s h276.2
                        · refine Ok.b (pX10_filled h276.2 ) (fun x2 h278 => ?_)
                          exact Ok.s h276.2
                      · refine Ok.e (gR_at o9 rfl) ?_
                        obtain ⟨_, _, _, _, _, _, o279⟩ := h7.oA hA13
                        refine Ok.e (gR_at o279 rfl) ?_
                        unfold jX1_passHead_304
                        refine Ok.b (pX1_takeLong h7 ((rkA1 hA13)) (by omega)) (fun x1 h280 => ?_)
                        unfold jX1_passHead_313
                        refine Ok.i (fun c281 => ?_) (fun c281 => ?_)
                        · exact Ok.s h280.2
                        · refine Ok.b (pX10_filled h280.2 ) (fun x2 h282 => ?_)
                          exact Ok.s h280.2
                · refine Ok.b (pX1_takeEntry h7 ) (fun x21 h283 => ?_)
                  unfold jX1_passHead_313
                  refine Ok.i (fun c284 => ?_) (fun c284 => ?_)
                  · exact Ok.s h283.2
                  · refine Ok.b (pX10_filled h283.2 ) (fun x2 h285 => ?_)
                    exact Ok.s h283.2
              · unfold jX1_passHead_198
                refine Ok.e (gR_at o9 rfl) ?_
                refine Ok.b (pX4_end h7 ) (fun x2 h286 => ?_)
                exact Ok.s h286
          · refine Ok.e (gR_at o9 rfl) ?_
            obtain ⟨_, _, _, _, _, _, o287⟩ := h7.oA hA13
            refine Ok.e (gJ_at o287 rfl) ?_
            refine Ok.e (gR_at o9 rfl) ?_
            obtain ⟨_, _, _, _, _, _, o288⟩ := h7.oA hA18
            refine Ok.e (gJ_at o288 rfl) ?_
            refine Ok.e (gR_at o9 rfl) ?_
            obtain ⟨_, _, _, _, _, _, o289⟩ := h7.oH
            refine Ok.e (gJ_at o289 rfl) ?_
            refine Ok.b (pX1_pick h7 ) (fun x10 h290 => ?_)
            unfold jX1_passHead_153
            refine Ok.e rfl ?_
            refine Ok.e (gR_at o9 rfl) ?_
            refine Ok.b (h7.count rk3) (fun x3 hu291 => ?_)
            refine Ok.i (fun c292 => ?_) (fun c292 => ?_)
            · unfold jX1_passHead_198
              refine Ok.e (gR_at o9 rfl) ?_
              refine Ok.b (pX4_end h7 ) (fun x2 h293 => ?_)
              exact Ok.s h293
            · refine Ok.b (pX10_filled h7 ) (fun x6 h294 => ?_)
              refine Ok.e (gR_at o9 rfl) ?_
              refine Ok.b (h7.count rk3) (fun x9 hu295 => ?_)
              refine Ok.i (fun c296 => ?_) (fun c296 => ?_)
              · refine Ok.e rfl ?_
                refine Ok.i (fun c297 => ?_) (fun c297 => ?_)
                · refine Ok.i (fun c298 => ?_) (fun c298 => ?_)
                  · unfold jX1_passHead_247
                    refine Ok.e (gR_at o9 rfl) ?_
                    refine Ok.i (fun c299 => ?_) (fun c299 => ?_)
                    · refine Ok.e (gR_at o9 rfl) ?_
                      unfold jX1_passHead_268
                      refine Ok.b (pX8_takeRows h7 (hA13)) (fun x1 h300 => ?_)
                      unfold jX1_passHead_313
                      refine Ok.i (fun c301 => ?_) (fun c301 => ?_)
                      · exact Ok.s h300.2
                      · refine Ok.b (pX10_filled h300.2 ) (fun x2 h302 => ?_)
                        exact Ok.s h300.2
                    · refine Ok.e (gR_at o9 rfl) ?_
                      unfold jX1_passHead_268
                      refine Ok.b (pX8_takeRows h7 (hA18)) (fun x1 h303 => ?_)
                      unfold jX1_passHead_313
                      refine Ok.i (fun c304 => ?_) (fun c304 => ?_)
                      · exact Ok.s h303.2
                      · refine Ok.b (pX10_filled h303.2 ) (fun x2 h305 => ?_)
                        exact Ok.s h303.2
                  · refine Ok.i (fun c306 => ?_) (fun c306 => ?_)
                    · unfold jX1_passHead_247
                      refine Ok.e (gR_at o9 rfl) ?_
                      refine Ok.i (fun c307 => ?_) (fun c307 => ?_)
                      · refine Ok.e (gR_at o9 rfl) ?_
                        unfold jX1_passHead_268
                        refine Ok.b (pX8_takeRows h7 (hA13)) (fun x1 h308 => ?_)
                        unfold jX1_passHead_313
                        refine Ok.i (fun c309 => ?_) (fun c309 => ?_)
                        · exact Ok.s h308.2
                        · refine Ok.b (pX10_filled h308.2 ) (fun x2 h310 => ?_)
                          exact Ok.s h308.2
                      · refine Ok.e (gR_at o9 rfl) ?_
                        unfold jX1_passHead_268
                        refine Ok.b (pX8_takeRows h7 (hA18)) (fun x1 h311 => ?_)
                        unfold jX1_passHead_313
                        refine Ok.i (fun c312 => ?_) (fun c312 => ?_)
                        · exact Ok.s h311.2
                        · refine Ok.b (pX10_filled h311.2 ) (fun x2 h313 => ?_)
                          exact Ok.s h311.2
                    · refine Ok.i (fun c314 => ?_) (fun c314 => ?_)
                      · refine Ok.e (gR_at o9 rfl) ?_
                        refine Ok.e (gR_at o287 rfl) ?_
                        unfold jX1_passHead_304
                        refine Ok.b (pX1_takeLong h7 ((rkA3 hA13)) (by omega)) (fun x1 h315 => ?_)
                        unfold jX1_passHead_313
                        refine Ok.i (fun c316 => ?_) (fun c316 => ?_)
                        · exact Ok.s h315.2
                        · refine Ok.b (pX10_filled h315.2 ) (fun x2 h317 => ?_)
                          exact Ok.s h315.2
                      · refine Ok.e (gR_at o9 rfl) ?_
                        refine Ok.e (gR_at o287 rfl) ?_
                        unfold jX1_passHead_304
                        refine Ok.b (pX1_takeLong h7 ((rkA1 hA13)) (by omega)) (fun x1 h318 => ?_)
                        unfold jX1_passHead_313
                        refine Ok.i (fun c319 => ?_) (fun c319 => ?_)
                        · exact Ok.s h318.2
                        · refine Ok.b (pX10_filled h318.2 ) (fun x2 h320 => ?_)
                          exact Ok.s h318.2
                · refine Ok.b (pX1_takeEntry h7 ) (fun x21 h321 => ?_)
                  unfold jX1_passHead_313
                  refine Ok.i (fun c322 => ?_) (fun c322 => ?_)
                  · exact Ok.s h321.2
                  · refine Ok.b (pX10_filled h321.2 ) (fun x2 h323 => ?_)
                    exact Ok.s h321.2
              · unfold jX1_passHead_198
                refine Ok.e (gR_at o9 rfl) ?_
                refine Ok.b (pX4_end h7 ) (fun x2 h324 => ?_)
                exact Ok.s h324
    · obtain ⟨_, _, o325⟩ := h7.oD
      refine Ok.e (gR_at o325 rfl) ?_
      refine Ok.b (pX4_end h7 ) (fun x17 h326 => ?_)
      exact Ok.s h326
