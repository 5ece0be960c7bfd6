/-! PURE: each method of the class answers, and keeps the shape of its cells (written by sgen.py) -/
theorem pX0_forget {v : Nat → Nat} {G0 G : gH} {b : Nat} {O : Nat → Nat → Int32} {P : Nat → Nat → Int64}  (h0 : Rch v G0 b O P 11 266 G) {ka : Nat} (hka : ka = 13 ∨ ka = 18) : Ok (Rch v G0 b O P 11 266) (fX0_forget v G (b + ka)) := by
  unfold fX0_forget
  obtain ⟨_, _, _, _, _, _, o1⟩ := h0.oA hka
  refine Ok.e (gOb_at o1) ?_
  refine Ok.e (gR_at o1 rfl) ?_
  refine Ok.b (h0.rop (rkA1 hka) (by omega) (s_empty (h0.rs (rkA1 hka)))) (fun x2 h2 => ?_)
  obtain ⟨_, _, _, _, _, _, o3⟩ := h2.oA hka
  refine Ok.e (gR_at o3 rfl) ?_
  refine Ok.b (h2.rop (rkA3 hka) (by omega) (s_empty (h2.rs (rkA3 hka)))) (fun x5 h4 => ?_)
  refine Ok.b (h4.pj (tj_A hka (Or.inl rfl)) (by omega)) (fun G7 h5 => ?_)
  refine Ok.b (h5.pj (tj_A hka (Or.inr (Or.inl rfl))) (by omega)) (fun G8 h6 => ?_)
  refine Ok.b (h6.pj (tj_A hka (Or.inr (Or.inr (Or.inl rfl)))) (by omega)) (fun G9 h7 => ?_)
  refine Ok.e gZ_0 ?_
  refine Ok.b (h7.pi (tm_A5 hka) (by omega)) (fun G13 h8 => ?_)
  exact Ok.s h8
theorem pX0_tellsSomething {v : Nat → Nat} {G0 G : gH} {b : Nat} {O : Nat → Nat → Int32} {P : Nat → Nat → Int64} {lo hi : Nat}  (h0 : Rch v G0 b O P lo hi G) {ka : Nat} (hka : ka = 13 ∨ ka = 18) : Ok (fun x => x = 0 ∨ x = 1) (fX0_tellsSomething v G (b + ka)) := by
  unfold fX0_tellsSomething
  obtain ⟨_, _, _, _, _, _, o1⟩ := h0.oA hka
  refine Ok.e (gOb_at o1) ?_
  refine Ok.e (gR_at o1 rfl) ?_
  refine Ok.b (h0.count (rkA1 hka)) (fun x2 hu2 => ?_)
  refine Ok.i (fun c3 => ?_) (fun c3 => ?_)
  · unfold jX0_tellsSomething_54
    refine Ok.e gZ_1 ?_
    exact Ok.s (by first | exact Or.inl rfl | exact Or.inr rfl | assumption | exact And.left (by assumption))
  · refine Ok.e (gR_at o1 rfl) ?_
    refine Ok.b (h0.count (rkA3 hka)) (fun x6 hu4 => ?_)
    refine Ok.i (fun c5 => ?_) (fun c5 => ?_)
    · unfold jX0_tellsSomething_54
      refine Ok.e gZ_1 ?_
      exact Ok.s (by first | exact Or.inl rfl | exact Or.inr rfl | assumption | exact And.left (by assumption))
    · refine Ok.e (gJ_at o1 rfl) ?_
      refine Ok.i (fun c6 => ?_) (fun c6 => ?_)
      · unfold jX0_tellsSomething_54
        refine Ok.e gZ_1 ?_
        exact Ok.s (by first | exact Or.inl rfl | exact Or.inr rfl | assumption | exact And.left (by assumption))
      · refine Ok.e (gJ_at o1 rfl) ?_
        refine Ok.i (fun c7 => ?_) (fun c7 => ?_)
        · unfold jX0_tellsSomething_54
          refine Ok.e gZ_1 ?_
          exact Ok.s (by first | exact Or.inl rfl | exact Or.inr rfl | assumption | exact And.left (by assumption))
        · refine Ok.e (gJ_at o1 rfl) ?_
          refine Ok.i (fun c8 => ?_) (fun c8 => ?_)
          · unfold jX0_tellsSomething_54
            refine Ok.e gZ_1 ?_
            exact Ok.s (by first | exact Or.inl rfl | exact Or.inr rfl | assumption | exact And.left (by assumption))
          · refine Ok.e (gI_at o1 rfl) ?_
            refine Ok.i (fun c9 => ?_) (fun c9 => ?_)
            · refine Ok.e gZ_0 ?_
              exact Ok.s (by first | exact Or.inl rfl | exact Or.inr rfl | assumption | exact And.left (by assumption))
            · unfold jX0_tellsSomething_54
              refine Ok.e gZ_1 ?_
              exact Ok.s (by first | exact Or.inl rfl | exact Or.inr rfl | assumption | exact And.left (by assumption))
theorem qX0_takeTime_106 {v : Nat → Nat} {G0 G : gH} {b : Nat} {O : Nat → Nat → Int32} {P : Nat → Nat → Int64} (h0 : Rch v G0 b O P 11 266 G) {ka : Nat} (hka : ka = 13 ∨ ka = 18)  : ∀ (n : Nat) (y3 : Int32) (y4 : Int32) (y6 : Int32) (y7 : Int64) (y9 : Int64) (y11 : Int32), gap y11 9 < n → Ok (fun r => (r.1 = 0 ∨ r.1 = 1) ∧ Rch v G0 b O P 11 266 r.2) (lX0_takeTime_106 v n G (b + ka) y3 y4 y6 y7 y9 y11) := by
  have lp : ∀ (n : Nat) (G : gH) (y3 : Int32) (y4 : Int32) (y6 : Int32) (y7 : Int64) (y9 : Int64) (y11 : Int32), Rch v G0 b O P 11 266 G → gap y11 9 < n → Ok (fun r => (r.1 = 0 ∨ r.1 = 1) ∧ Rch v G0 b O P 11 266 r.2) (lX0_takeTime_106 v n G (b + ka) y3 y4 y6 y7 y9 y11) := by
    intro n
    induction n with
    | zero => intro G y3 y4 y6 y7 y9 y11 _ h; exact absurd h (Nat.not_lt_zero _)
    | succ n ih =>
      intro G y3 y4 y6 y7 y9 y11 h0 hm
      show Ok _ (bX0_takeTime_106 v (lX0_takeTime_106 v n) G (b + ka) y3 y4 y6 y7 y9 y11)
      unfold bX0_takeTime_106
      refine Ok.i (fun c1 => ?_) (fun c1 => ?_)
      · unfold jX0_takeTime_133
        refine Ok.e gZ_1 ?_
        refine Ok.b (h0.pi (tm_A5 hka) (by omega)) (fun G4 h2 => ?_)
        refine Ok.i (fun c3 => ?_) (fun c3 => ?_)
        · unfold jX0_takeTime_154
          unfold jX0_takeTime_155
          refine Ok.i (fun c4 => ?_) (fun c4 => ?_)
          · refine Ok.i (fun c5 => ?_) (fun c5 => ?_)
            · unfold jX0_takeTime_184
              refine Ok.b (h2.pj (tj_A hka (Or.inr (Or.inr (Or.inr (Or.inl rfl))))) (by omega)) (fun G1 h6 => ?_)
              refine Ok.i (fun c7 => ?_) (fun c7 => ?_)
              · refine Ok.b (h6.pj (tj_A hka (Or.inr (Or.inr (Or.inr (Or.inr (rfl)))))) (by omega)) (fun G3 h8 => ?_)
                refine Ok.e gZ_1 ?_
                exact Ok.s ⟨(by first | exact Or.inl rfl | exact Or.inr rfl | assumption | exact And.left (by assumption)), h8⟩
              · refine Ok.b (h6.pj (tj_A hka (Or.inr (Or.inr (Or.inr (Or.inr (rfl)))))) (by omega)) (fun G5 h9 => ?_)
                refine Ok.e gZ_1 ?_
                exact Ok.s ⟨(by first | exact Or.inl rfl | exact Or.inr rfl | assumption | exact And.left (by assumption)), h9⟩
            · unfold jX0_takeTime_184
              refine Ok.b (h2.pj (tj_A hka (Or.inr (Or.inr (Or.inr (Or.inl rfl))))) (by omega)) (fun G1 h10 => ?_)
              refine Ok.i (fun c11 => ?_) (fun c11 => ?_)
              · refine Ok.b (h10.pj (tj_A hka (Or.inr (Or.inr (Or.inr (Or.inr (rfl)))))) (by omega)) (fun G3 h12 => ?_)
                refine Ok.e gZ_1 ?_
                exact Ok.s ⟨(by first | exact Or.inl rfl | exact Or.inr rfl | assumption | exact And.left (by assumption)), h12⟩
              · refine Ok.b (h10.pj (tj_A hka (Or.inr (Or.inr (Or.inr (Or.inr (rfl)))))) (by omega)) (fun G5 h13 => ?_)
                refine Ok.e gZ_1 ?_
                exact Ok.s ⟨(by first | exact Or.inl rfl | exact Or.inr rfl | assumption | exact And.left (by assumption)), h13⟩
          · unfold jX0_takeTime_184
            refine Ok.b (h2.pj (tj_A hka (Or.inr (Or.inr (Or.inr (Or.inl rfl))))) (by omega)) (fun G1 h14 => ?_)
            refine Ok.i (fun c15 => ?_) (fun c15 => ?_)
            · refine Ok.b (h14.pj (tj_A hka (Or.inr (Or.inr (Or.inr (Or.inr (rfl)))))) (by omega)) (fun G3 h16 => ?_)
              refine Ok.e gZ_1 ?_
              exact Ok.s ⟨(by first | exact Or.inl rfl | exact Or.inr rfl | assumption | exact And.left (by assumption)), h16⟩
            · refine Ok.b (h14.pj (tj_A hka (Or.inr (Or.inr (Or.inr (Or.inr (rfl)))))) (by omega)) (fun G5 h17 => ?_)
              refine Ok.e gZ_1 ?_
              exact Ok.s ⟨(by first | exact Or.inl rfl | exact Or.inr rfl | assumption | exact And.left (by assumption)), h17⟩
        · refine Ok.i (fun c18 => ?_) (fun c18 => ?_)
          · unfold jX0_takeTime_154
            unfold jX0_takeTime_155
            refine Ok.i (fun c19 => ?_) (fun c19 => ?_)
            · refine Ok.i (fun c20 => ?_) (fun c20 => ?_)
              · unfold jX0_takeTime_184
                refine Ok.b (h2.pj (tj_A hka (Or.inr (Or.inr (Or.inr (Or.inl rfl))))) (by omega)) (fun G1 h21 => ?_)
                refine Ok.i (fun c22 => ?_) (fun c22 => ?_)
                · refine Ok.b (h21.pj (tj_A hka (Or.inr (Or.inr (Or.inr (Or.inr (rfl)))))) (by omega)) (fun G3 h23 => ?_)
                  refine Ok.e gZ_1 ?_
                  exact Ok.s ⟨(by first | exact Or.inl rfl | exact Or.inr rfl | assumption | exact And.left (by assumption)), h23⟩
                · refine Ok.b (h21.pj (tj_A hka (Or.inr (Or.inr (Or.inr (Or.inr (rfl)))))) (by omega)) (fun G5 h24 => ?_)
                  refine Ok.e gZ_1 ?_
                  exact Ok.s ⟨(by first | exact Or.inl rfl | exact Or.inr rfl | assumption | exact And.left (by assumption)), h24⟩
              · unfold jX0_takeTime_184
                refine Ok.b (h2.pj (tj_A hka (Or.inr (Or.inr (Or.inr (Or.inl rfl))))) (by omega)) (fun G1 h25 => ?_)
                refine Ok.i (fun c26 => ?_) (fun c26 => ?_)
                · refine Ok.b (h25.pj (tj_A hka (Or.inr (Or.inr (Or.inr (Or.inr (rfl)))))) (by omega)) (fun G3 h27 => ?_)
                  refine Ok.e gZ_1 ?_
                  exact Ok.s ⟨(by first | exact Or.inl rfl | exact Or.inr rfl | assumption | exact And.left (by assumption)), h27⟩
                · refine Ok.b (h25.pj (tj_A hka (Or.inr (Or.inr (Or.inr (Or.inr (rfl)))))) (by omega)) (fun G5 h28 => ?_)
                  refine Ok.e gZ_1 ?_
                  exact Ok.s ⟨(by first | exact Or.inl rfl | exact Or.inr rfl | assumption | exact And.left (by assumption)), h28⟩
            · unfold jX0_takeTime_184
              refine Ok.b (h2.pj (tj_A hka (Or.inr (Or.inr (Or.inr (Or.inl rfl))))) (by omega)) (fun G1 h29 => ?_)
              refine Ok.i (fun c30 => ?_) (fun c30 => ?_)
              · refine Ok.b (h29.pj (tj_A hka (Or.inr (Or.inr (Or.inr (Or.inr (rfl)))))) (by omega)) (fun G3 h31 => ?_)
                refine Ok.e gZ_1 ?_
                exact Ok.s ⟨(by first | exact Or.inl rfl | exact Or.inr rfl | assumption | exact And.left (by assumption)), h31⟩
              · refine Ok.b (h29.pj (tj_A hka (Or.inr (Or.inr (Or.inr (Or.inr (rfl)))))) (by omega)) (fun G5 h32 => ?_)
                refine Ok.e gZ_1 ?_
                exact Ok.s ⟨(by first | exact Or.inl rfl | exact Or.inr rfl | assumption | exact And.left (by assumption)), h32⟩
          · unfold jX0_takeTime_155
            refine Ok.i (fun c33 => ?_) (fun c33 => ?_)
            · refine Ok.i (fun c34 => ?_) (fun c34 => ?_)
              · unfold jX0_takeTime_184
                refine Ok.b (h2.pj (tj_A hka (Or.inr (Or.inr (Or.inr (Or.inl rfl))))) (by omega)) (fun G1 h35 => ?_)
                refine Ok.i (fun c36 => ?_) (fun c36 => ?_)
                · refine Ok.b (h35.pj (tj_A hka (Or.inr (Or.inr (Or.inr (Or.inr (rfl)))))) (by omega)) (fun G3 h37 => ?_)
                  refine Ok.e gZ_1 ?_
                  exact Ok.s ⟨(by first | exact Or.inl rfl | exact Or.inr rfl | assumption | exact And.left (by assumption)), h37⟩
                · refine Ok.b (h35.pj (tj_A hka (Or.inr (Or.inr (Or.inr (Or.inr (rfl)))))) (by omega)) (fun G5 h38 => ?_)
                  refine Ok.e gZ_1 ?_
                  exact Ok.s ⟨(by first | exact Or.inl rfl | exact Or.inr rfl | assumption | exact And.left (by assumption)), h38⟩
              · unfold jX0_takeTime_184
                refine Ok.b (h2.pj (tj_A hka (Or.inr (Or.inr (Or.inr (Or.inl rfl))))) (by omega)) (fun G1 h39 => ?_)
                refine Ok.i (fun c40 => ?_) (fun c40 => ?_)
                · refine Ok.b (h39.pj (tj_A hka (Or.inr (Or.inr (Or.inr (Or.inr (rfl)))))) (by omega)) (fun G3 h41 => ?_)
                  refine Ok.e gZ_1 ?_
                  exact Ok.s ⟨(by first | exact Or.inl rfl | exact Or.inr rfl | assumption | exact And.left (by assumption)), h41⟩
                · refine Ok.b (h39.pj (tj_A hka (Or.inr (Or.inr (Or.inr (Or.inr (rfl)))))) (by omega)) (fun G5 h42 => ?_)
                  refine Ok.e gZ_1 ?_
                  exact Ok.s ⟨(by first | exact Or.inl rfl | exact Or.inr rfl | assumption | exact And.left (by assumption)), h42⟩
            · unfold jX0_takeTime_184
              refine Ok.b (h2.pj (tj_A hka (Or.inr (Or.inr (Or.inr (Or.inl rfl))))) (by omega)) (fun G1 h43 => ?_)
              refine Ok.i (fun c44 => ?_) (fun c44 => ?_)
              · refine Ok.b (h43.pj (tj_A hka (Or.inr (Or.inr (Or.inr (Or.inr (rfl)))))) (by omega)) (fun G3 h45 => ?_)
                refine Ok.e gZ_1 ?_
                exact Ok.s ⟨(by first | exact Or.inl rfl | exact Or.inr rfl | assumption | exact And.left (by assumption)), h45⟩
              · refine Ok.b (h43.pj (tj_A hka (Or.inr (Or.inr (Or.inr (Or.inr (rfl)))))) (by omega)) (fun G5 h46 => ?_)
                refine Ok.e gZ_1 ?_
                exact Ok.s ⟨(by first | exact Or.inl rfl | exact Or.inr rfl | assumption | exact And.left (by assumption)), h46⟩
      · refine Ok.i (fun c47 => ?_) (fun c47 => ?_)
        · unfold jX0_takeTime_133
          refine Ok.e gZ_1 ?_
          refine Ok.b (h0.pi (tm_A5 hka) (by omega)) (fun G4 h48 => ?_)
          refine Ok.i (fun c49 => ?_) (fun c49 => ?_)
          · unfold jX0_takeTime_154
            unfold jX0_takeTime_155
            refine Ok.i (fun c50 => ?_) (fun c50 => ?_)
            · refine Ok.i (fun c51 => ?_) (fun c51 => ?_)
              · unfold jX0_takeTime_184
                refine Ok.b (h48.pj (tj_A hka (Or.inr (Or.inr (Or.inr (Or.inl rfl))))) (by omega)) (fun G1 h52 => ?_)
                refine Ok.i (fun c53 => ?_) (fun c53 => ?_)
                · refine Ok.b (h52.pj (tj_A hka (Or.inr (Or.inr (Or.inr (Or.inr (rfl)))))) (by omega)) (fun G3 h54 => ?_)
                  refine Ok.e gZ_1 ?_
                  exact Ok.s ⟨(by first | exact Or.inl rfl | exact Or.inr rfl | assumption | exact And.left (by assumption)), h54⟩
                · refine Ok.b (h52.pj (tj_A hka (Or.inr (Or.inr (Or.inr (Or.inr (rfl)))))) (by omega)) (fun G5 h55 => ?_)
                  refine Ok.e gZ_1 ?_
                  exact Ok.s ⟨(by first | exact Or.inl rfl | exact Or.inr rfl | assumption | exact And.left (by assumption)), h55⟩
              · unfold jX0_takeTime_184
                refine Ok.b (h48.pj (tj_A hka (Or.inr (Or.inr (Or.inr (Or.inl rfl))))) (by omega)) (fun G1 h56 => ?_)
                refine Ok.i (fun c57 => ?_) (fun c57 => ?_)
                · refine Ok.b (h56.pj (tj_A hka (Or.inr (Or.inr (Or.inr (Or.inr (rfl)))))) (by omega)) (fun G3 h58 => ?_)
                  refine Ok.e gZ_1 ?_
                  exact Ok.s ⟨(by first | exact Or.inl rfl | exact Or.inr rfl | assumption | exact And.left (by assumption)), h58⟩
                · refine Ok.b (h56.pj (tj_A hka (Or.inr (Or.inr (Or.inr (Or.inr (rfl)))))) (by omega)) (fun G5 h59 => ?_)
                  refine Ok.e gZ_1 ?_
                  exact Ok.s ⟨(by first | exact Or.inl rfl | exact Or.inr rfl | assumption | exact And.left (by assumption)), h59⟩
            · unfold jX0_takeTime_184
              refine Ok.b (h48.pj (tj_A hka (Or.inr (Or.inr (Or.inr (Or.inl rfl))))) (by omega)) (fun G1 h60 => ?_)
              refine Ok.i (fun c61 => ?_) (fun c61 => ?_)
              · refine Ok.b (h60.pj (tj_A hka (Or.inr (Or.inr (Or.inr (Or.inr (rfl)))))) (by omega)) (fun G3 h62 => ?_)
                refine Ok.e gZ_1 ?_
                exact Ok.s ⟨(by first | exact Or.inl rfl | exact Or.inr rfl | assumption | exact And.left (by assumption)), h62⟩
              · refine Ok.b (h60.pj (tj_A hka (Or.inr (Or.inr (Or.inr (Or.inr (rfl)))))) (by omega)) (fun G5 h63 => ?_)
                refine Ok.e gZ_1 ?_
                exact Ok.s ⟨(by first | exact Or.inl rfl | exact Or.inr rfl | assumption | exact And.left (by assumption)), h63⟩
          · refine Ok.i (fun c64 => ?_) (fun c64 => ?_)
            · unfold jX0_takeTime_154
              unfold jX0_takeTime_155
              refine Ok.i (fun c65 => ?_) (fun c65 => ?_)
              · refine Ok.i (fun c66 => ?_) (fun c66 => ?_)
                · unfold jX0_takeTime_184
                  refine Ok.b (h48.pj (tj_A hka (Or.inr (Or.inr (Or.inr (Or.inl rfl))))) (by omega)) (fun G1 h67 => ?_)
                  refine Ok.i (fun c68 => ?_) (fun c68 => ?_)
                  · refine Ok.b (h67.pj (tj_A hka (Or.inr (Or.inr (Or.inr (Or.inr (rfl)))))) (by omega)) (fun G3 h69 => ?_)
                    refine Ok.e gZ_1 ?_
                    exact Ok.s ⟨(by first | exact Or.inl rfl | exact Or.inr rfl | assumption | exact And.left (by assumption)), h69⟩
                  · refine Ok.b (h67.pj (tj_A hka (Or.inr (Or.inr (Or.inr (Or.inr (rfl)))))) (by omega)) (fun G5 h70 => ?_)
                    refine Ok.e gZ_1 ?_
                    exact Ok.s ⟨(by first | exact Or.inl rfl | exact Or.inr rfl | assumption | exact And.left (by assumption)), h70⟩
                · unfold jX0_takeTime_184
                  refine Ok.b (h48.pj (tj_A hka (Or.inr (Or.inr (Or.inr (Or.inl rfl))))) (by omega)) (fun G1 h71 => ?_)
                  refine Ok.i (fun c72 => ?_) (fun c72 => ?_)
                  · refine Ok.b (h71.pj (tj_A hka (Or.inr (Or.inr (Or.inr (Or.inr (rfl)))))) (by omega)) (fun G3 h73 => ?_)
                    refine Ok.e gZ_1 ?_
                    exact Ok.s ⟨(by first | exact Or.inl rfl | exact Or.inr rfl | assumption | exact And.left (by assumption)), h73⟩
                  · refine Ok.b (h71.pj (tj_A hka (Or.inr (Or.inr (Or.inr (Or.inr (rfl)))))) (by omega)) (fun G5 h74 => ?_)
                    refine Ok.e gZ_1 ?_
                    exact Ok.s ⟨(by first | exact Or.inl rfl | exact Or.inr rfl | assumption | exact And.left (by assumption)), h74⟩
              · unfold jX0_takeTime_184
                refine Ok.b (h48.pj (tj_A hka (Or.inr (Or.inr (Or.inr (Or.inl rfl))))) (by omega)) (fun G1 h75 => ?_)
                refine Ok.i (fun c76 => ?_) (fun c76 => ?_)
                · refine Ok.b (h75.pj (tj_A hka (Or.inr (Or.inr (Or.inr (Or.inr (rfl)))))) (by omega)) (fun G3 h77 => ?_)
                  refine Ok.e gZ_1 ?_
                  exact Ok.s ⟨(by first | exact Or.inl rfl | exact Or.inr rfl | assumption | exact And.left (by assumption)), h77⟩
                · refine Ok.b (h75.pj (tj_A hka (Or.inr (Or.inr (Or.inr (Or.inr (rfl)))))) (by omega)) (fun G5 h78 => ?_)
                  refine Ok.e gZ_1 ?_
                  exact Ok.s ⟨(by first | exact Or.inl rfl | exact Or.inr rfl | assumption | exact And.left (by assumption)), h78⟩
            · unfold jX0_takeTime_155
              refine Ok.i (fun c79 => ?_) (fun c79 => ?_)
              · refine Ok.i (fun c80 => ?_) (fun c80 => ?_)
                · unfold jX0_takeTime_184
                  refine Ok.b (h48.pj (tj_A hka (Or.inr (Or.inr (Or.inr (Or.inl rfl))))) (by omega)) (fun G1 h81 => ?_)
                  refine Ok.i (fun c82 => ?_) (fun c82 => ?_)
                  · refine Ok.b (h81.pj (tj_A hka (Or.inr (Or.inr (Or.inr (Or.inr (rfl)))))) (by omega)) (fun G3 h83 => ?_)
                    refine Ok.e gZ_1 ?_
                    exact Ok.s ⟨(by first | exact Or.inl rfl | exact Or.inr rfl | assumption | exact And.left (by assumption)), h83⟩
                  · refine Ok.b (h81.pj (tj_A hka (Or.inr (Or.inr (Or.inr (Or.inr (rfl)))))) (by omega)) (fun G5 h84 => ?_)
                    refine Ok.e gZ_1 ?_
                    exact Ok.s ⟨(by first | exact Or.inl rfl | exact Or.inr rfl | assumption | exact And.left (by assumption)), h84⟩
                · unfold jX0_takeTime_184
                  refine Ok.b (h48.pj (tj_A hka (Or.inr (Or.inr (Or.inr (Or.inl rfl))))) (by omega)) (fun G1 h85 => ?_)
                  refine Ok.i (fun c86 => ?_) (fun c86 => ?_)
                  · refine Ok.b (h85.pj (tj_A hka (Or.inr (Or.inr (Or.inr (Or.inr (rfl)))))) (by omega)) (fun G3 h87 => ?_)
                    refine Ok.e gZ_1 ?_
                    exact Ok.s ⟨(by first | exact Or.inl rfl | exact Or.inr rfl | assumption | exact And.left (by assumption)), h87⟩
                  · refine Ok.b (h85.pj (tj_A hka (Or.inr (Or.inr (Or.inr (Or.inr (rfl)))))) (by omega)) (fun G5 h88 => ?_)
                    refine Ok.e gZ_1 ?_
                    exact Ok.s ⟨(by first | exact Or.inl rfl | exact Or.inr rfl | assumption | exact And.left (by assumption)), h88⟩
              · unfold jX0_takeTime_184
                refine Ok.b (h48.pj (tj_A hka (Or.inr (Or.inr (Or.inr (Or.inl rfl))))) (by omega)) (fun G1 h89 => ?_)
                refine Ok.i (fun c90 => ?_) (fun c90 => ?_)
                · refine Ok.b (h89.pj (tj_A hka (Or.inr (Or.inr (Or.inr (Or.inr (rfl)))))) (by omega)) (fun G3 h91 => ?_)
                  refine Ok.e gZ_1 ?_
                  exact Ok.s ⟨(by first | exact Or.inl rfl | exact Or.inr rfl | assumption | exact And.left (by assumption)), h91⟩
                · refine Ok.b (h89.pj (tj_A hka (Or.inr (Or.inr (Or.inr (Or.inr (rfl)))))) (by omega)) (fun G5 h92 => ?_)
                  refine Ok.e gZ_1 ?_
                  exact Ok.s ⟨(by first | exact Or.inl rfl | exact Or.inr rfl | assumption | exact And.left (by assumption)), h92⟩
        · refine Ok.e rfl ?_
          refine Ok.e rfl ?_
          exact ih _ _ _ _ _ _ _ h0  (by first | exact gap_up (by assumption) hm | exact gap_up' (by assumption) hm | exact dist_dn (by assumption) hm | exact dist_dn (n1 (by assumption)) hm | exact dist_dn (n2 (by assumption)) hm | exact gap_up' (lt40 (by assumption) (by assumption)) hm | exact gap_up' (le40 (by assumption) (by assumption)) hm | exact gap_up' (lt65 (by assumption)) hm | exact div10 (by assumption) hm)
  intro n y3 y4 y6 y7 y9 y11 hm
  exact lp n G y3 y4 y6 y7 y9 y11 h0 hm
theorem pX0_takeTime {v : Nat → Nat} {G0 G : gH} {b : Nat} {O : Nat → Nat → Int32} {P : Nat → Nat → Int64} {a2 : Int32} {a3 : Int32} (h0 : Rch v G0 b O P 11 266 G) {ka : Nat} (hka : ka = 13 ∨ ka = 18) {kr : Nat} (hkr : rkB kr = true) : Ok (fun r => (r.1 = 0 ∨ r.1 = 1) ∧ Rch v G0 b O P 11 266 r.2) (fX0_takeTime v G (b + ka) (b + kr) a2 a3) := by
  have hrlkr := rkB_lt hkr
  unfold fX0_takeTime
  obtain ⟨_, _, _, _, _, _, o1⟩ := h0.oA hka
  refine Ok.e (gOb_at o1) ?_
  refine Ok.b (h0.at_ hkr) (fun x1 _ => ?_)
  refine Ok.i (fun c2 => ?_) (fun c2 => ?_)
  · refine Ok.i (fun c3 => ?_) (fun c3 => ?_)
    · unfold jX0_takeTime_19
      unfold jX0_takeTime_20
      refine Ok.i (fun c4 => ?_) (fun c4 => ?_)
      · unfold jX0_takeTime_34
        refine Ok.b (h0.find hkr) (fun x1 _ => ?_)
        refine Ok.b (h0.decimal hkr) (fun x3 _ => ?_)
        refine Ok.i (fun c5 => ?_) (fun c5 => ?_)
        · unfold jX0_takeTime_80
          refine Ok.i (fun c6 => ?_) (fun c6 => ?_)
          · refine Ok.e gZ_0 ?_
            exact Ok.s ⟨(by first | exact Or.inl rfl | exact Or.inr rfl | assumption | exact And.left (by assumption)), h0⟩
          · refine Ok.i (fun c7 => ?_) (fun c7 => ?_)
            · refine Ok.e rfl ?_
              exact qX0_takeTime_106 h0 (hka) gFu _ _ _ _ _ _ (gap_fu _ _)
            · refine Ok.e gZ_0 ?_
              exact Ok.s ⟨(by first | exact Or.inl rfl | exact Or.inr rfl | assumption | exact And.left (by assumption)), h0⟩
        · refine Ok.b (h0.decimal hkr) (fun x6 _ => ?_)
          unfold jX0_takeTime_80
          refine Ok.i (fun c8 => ?_) (fun c8 => ?_)
          · refine Ok.e gZ_0 ?_
            exact Ok.s ⟨(by first | exact Or.inl rfl | exact Or.inr rfl | assumption | exact And.left (by assumption)), h0⟩
          · refine Ok.i (fun c9 => ?_) (fun c9 => ?_)
            · refine Ok.e rfl ?_
              exact qX0_takeTime_106 h0 (hka) gFu _ _ _ _ _ _ (gap_fu _ _)
            · refine Ok.e gZ_0 ?_
              exact Ok.s ⟨(by first | exact Or.inl rfl | exact Or.inr rfl | assumption | exact And.left (by assumption)), h0⟩
      · unfold jX0_takeTime_34
        refine Ok.b (h0.find hkr) (fun x1 _ => ?_)
        refine Ok.b (h0.decimal hkr) (fun x3 _ => ?_)
        refine Ok.i (fun c10 => ?_) (fun c10 => ?_)
        · unfold jX0_takeTime_80
          refine Ok.i (fun c11 => ?_) (fun c11 => ?_)
          · refine Ok.e gZ_0 ?_
            exact Ok.s ⟨(by first | exact Or.inl rfl | exact Or.inr rfl | assumption | exact And.left (by assumption)), h0⟩
          · refine Ok.i (fun c12 => ?_) (fun c12 => ?_)
            · refine Ok.e rfl ?_
              exact qX0_takeTime_106 h0 (hka) gFu _ _ _ _ _ _ (gap_fu _ _)
            · refine Ok.e gZ_0 ?_
              exact Ok.s ⟨(by first | exact Or.inl rfl | exact Or.inr rfl | assumption | exact And.left (by assumption)), h0⟩
        · refine Ok.b (h0.decimal hkr) (fun x6 _ => ?_)
          unfold jX0_takeTime_80
          refine Ok.i (fun c13 => ?_) (fun c13 => ?_)
          · refine Ok.e gZ_0 ?_
            exact Ok.s ⟨(by first | exact Or.inl rfl | exact Or.inr rfl | assumption | exact And.left (by assumption)), h0⟩
          · refine Ok.i (fun c14 => ?_) (fun c14 => ?_)
            · refine Ok.e rfl ?_
              exact qX0_takeTime_106 h0 (hka) gFu _ _ _ _ _ _ (gap_fu _ _)
            · refine Ok.e gZ_0 ?_
              exact Ok.s ⟨(by first | exact Or.inl rfl | exact Or.inr rfl | assumption | exact And.left (by assumption)), h0⟩
    · unfold jX0_takeTime_20
      refine Ok.i (fun c15 => ?_) (fun c15 => ?_)
      · unfold jX0_takeTime_34
        refine Ok.b (h0.find hkr) (fun x1 _ => ?_)
        refine Ok.b (h0.decimal hkr) (fun x3 _ => ?_)
        refine Ok.i (fun c16 => ?_) (fun c16 => ?_)
        · unfold jX0_takeTime_80
          refine Ok.i (fun c17 => ?_) (fun c17 => ?_)
          · refine Ok.e gZ_0 ?_
            exact Ok.s ⟨(by first | exact Or.inl rfl | exact Or.inr rfl | assumption | exact And.left (by assumption)), h0⟩
          · refine Ok.i (fun c18 => ?_) (fun c18 => ?_)
            · refine Ok.e rfl ?_
              exact qX0_takeTime_106 h0 (hka) gFu _ _ _ _ _ _ (gap_fu _ _)
            · refine Ok.e gZ_0 ?_
              exact Ok.s ⟨(by first | exact Or.inl rfl | exact Or.inr rfl | assumption | exact And.left (by assumption)), h0⟩
        · refine Ok.b (h0.decimal hkr) (fun x6 _ => ?_)
          unfold jX0_takeTime_80
          refine Ok.i (fun c19 => ?_) (fun c19 => ?_)
          · refine Ok.e gZ_0 ?_
            exact Ok.s ⟨(by first | exact Or.inl rfl | exact Or.inr rfl | assumption | exact And.left (by assumption)), h0⟩
          · refine Ok.i (fun c20 => ?_) (fun c20 => ?_)
            · refine Ok.e rfl ?_
              exact qX0_takeTime_106 h0 (hka) gFu _ _ _ _ _ _ (gap_fu _ _)
            · refine Ok.e gZ_0 ?_
              exact Ok.s ⟨(by first | exact Or.inl rfl | exact Or.inr rfl | assumption | exact And.left (by assumption)), h0⟩
      · unfold jX0_takeTime_34
        refine Ok.b (h0.find hkr) (fun x1 _ => ?_)
        refine Ok.b (h0.decimal hkr) (fun x3 _ => ?_)
        refine Ok.i (fun c21 => ?_) (fun c21 => ?_)
        · unfold jX0_takeTime_80
          refine Ok.i (fun c22 => ?_) (fun c22 => ?_)
          · refine Ok.e gZ_0 ?_
            exact Ok.s ⟨(by first | exact Or.inl rfl | exact Or.inr rfl | assumption | exact And.left (by assumption)), h0⟩
          · refine Ok.i (fun c23 => ?_) (fun c23 => ?_)
            · refine Ok.e rfl ?_
              exact qX0_takeTime_106 h0 (hka) gFu _ _ _ _ _ _ (gap_fu _ _)
            · refine Ok.e gZ_0 ?_
              exact Ok.s ⟨(by first | exact Or.inl rfl | exact Or.inr rfl | assumption | exact And.left (by assumption)), h0⟩
        · refine Ok.b (h0.decimal hkr) (fun x6 _ => ?_)
          unfold jX0_takeTime_80
          refine Ok.i (fun c24 => ?_) (fun c24 => ?_)
          · refine Ok.e gZ_0 ?_
            exact Ok.s ⟨(by first | exact Or.inl rfl | exact Or.inr rfl | assumption | exact And.left (by assumption)), h0⟩
          · refine Ok.i (fun c25 => ?_) (fun c25 => ?_)
            · refine Ok.e rfl ?_
              exact qX0_takeTime_106 h0 (hka) gFu _ _ _ _ _ _ (gap_fu _ _)
            · refine Ok.e gZ_0 ?_
              exact Ok.s ⟨(by first | exact Or.inl rfl | exact Or.inr rfl | assumption | exact And.left (by assumption)), h0⟩
  · unfold jX0_takeTime_19
    unfold jX0_takeTime_20
    refine Ok.i (fun c26 => ?_) (fun c26 => ?_)
    · unfold jX0_takeTime_34
      refine Ok.b (h0.find hkr) (fun x1 _ => ?_)
      refine Ok.b (h0.decimal hkr) (fun x3 _ => ?_)
      refine Ok.i (fun c27 => ?_) (fun c27 => ?_)
      · unfold jX0_takeTime_80
        refine Ok.i (fun c28 => ?_) (fun c28 => ?_)
        · refine Ok.e gZ_0 ?_
          exact Ok.s ⟨(by first | exact Or.inl rfl | exact Or.inr rfl | assumption | exact And.left (by assumption)), h0⟩
        · refine Ok.i (fun c29 => ?_) (fun c29 => ?_)
          · refine Ok.e rfl ?_
            exact qX0_takeTime_106 h0 (hka) gFu _ _ _ _ _ _ (gap_fu _ _)
          · refine Ok.e gZ_0 ?_
            exact Ok.s ⟨(by first | exact Or.inl rfl | exact Or.inr rfl | assumption | exact And.left (by assumption)), h0⟩
      · refine Ok.b (h0.decimal hkr) (fun x6 _ => ?_)
        unfold jX0_takeTime_80
        refine Ok.i (fun c30 => ?_) (fun c30 => ?_)
        · refine Ok.e gZ_0 ?_
          exact Ok.s ⟨(by first | exact Or.inl rfl | exact Or.inr rfl | assumption | exact And.left (by assumption)), h0⟩
        · refine Ok.i (fun c31 => ?_) (fun c31 => ?_)
          · refine Ok.e rfl ?_
            exact qX0_takeTime_106 h0 (hka) gFu _ _ _ _ _ _ (gap_fu _ _)
          · refine Ok.e gZ_0 ?_
            exact Ok.s ⟨(by first | exact Or.inl rfl | exact Or.inr rfl | assumption | exact And.left (by assumption)), h0⟩
    · unfold jX0_takeTime_34
      refine Ok.b (h0.find hkr) (fun x1 _ => ?_)
      refine Ok.b (h0.decimal hkr) (fun x3 _ => ?_)
      refine Ok.i (fun c32 => ?_) (fun c32 => ?_)
      · unfold jX0_takeTime_80
        refine Ok.i (fun c33 => ?_) (fun c33 => ?_)
        · refine Ok.e gZ_0 ?_
          exact Ok.s ⟨(by first | exact Or.inl rfl | exact Or.inr rfl | assumption | exact And.left (by assumption)), h0⟩
        · refine Ok.i (fun c34 => ?_) (fun c34 => ?_)
          · refine Ok.e rfl ?_
            exact qX0_takeTime_106 h0 (hka) gFu _ _ _ _ _ _ (gap_fu _ _)
          · refine Ok.e gZ_0 ?_
            exact Ok.s ⟨(by first | exact Or.inl rfl | exact Or.inr rfl | assumption | exact And.left (by assumption)), h0⟩
      · refine Ok.b (h0.decimal hkr) (fun x6 _ => ?_)
        unfold jX0_takeTime_80
        refine Ok.i (fun c35 => ?_) (fun c35 => ?_)
        · refine Ok.e gZ_0 ?_
          exact Ok.s ⟨(by first | exact Or.inl rfl | exact Or.inr rfl | assumption | exact And.left (by assumption)), h0⟩
        · refine Ok.i (fun c36 => ?_) (fun c36 => ?_)
          · refine Ok.e rfl ?_
            exact qX0_takeTime_106 h0 (hka) gFu _ _ _ _ _ _ (gap_fu _ _)
          · refine Ok.e gZ_0 ?_
            exact Ok.s ⟨(by first | exact Or.inl rfl | exact Or.inr rfl | assumption | exact And.left (by assumption)), h0⟩
theorem pX4_forget {v : Nat → Nat} {G0 G : gH} {b : Nat} {O : Nat → Nat → Int32} {P : Nat → Nat → Int64}  (h0 : Rch v G0 b O P 11 266 G) : Ok (Rch v G0 b O P 11 266) (fX4_forget v G (b + 23)) := by
  unfold fX4_forget
  obtain ⟨_, _, o1⟩ := h0.oF
  refine Ok.e (gOb_at o1) ?_
  refine Ok.b (h0.pi tm_F0 (by omega)) (fun G1 h2 => ?_)
  refine Ok.b (h2.pi tm_F1 (by omega)) (fun G2 h3 => ?_)
  exact Ok.s h3
theorem pX4_end {v : Nat → Nat} {G0 G : gH} {b : Nat} {O : Nat → Nat → Int32} {P : Nat → Nat → Int64} {a1 : Int32} {a2 : Int32} (h0 : Rch v G0 b O P 11 266 G) : Ok (fun r => Rch v G0 b O P 11 266 r.2) (fX4_end v G (b + 23) a1 a2) := by
  unfold fX4_end
  obtain ⟨_, _, o1⟩ := h0.oF
  refine Ok.e (gOb_at o1) ?_
  refine Ok.b (h0.pi tm_F0 (by omega)) (fun G1 h2 => ?_)
  refine Ok.b (h2.pi tm_F1 (by omega)) (fun G2 h3 => ?_)
  exact Ok.s h3
theorem qX1_isBlank_19 {v : Nat → Nat} {G0 G : gH} {b : Nat} {O : Nat → Nat → Int32} {P : Nat → Nat → Int64} {lo hi : Nat} (h0 : Rch v G0 b O P lo hi G)  : ∀ (n : Nat) (y1 : Int32) (y2 : Int32), gap y2 (y1 + 512) < n → Ok (fun x => x = 0 ∨ x = 1) (lX1_isBlank_19 v G n (b + 11) y1 y2) := by
  intro n
  induction n with
  | zero => intro y1 y2 h; exact absurd h (Nat.not_lt_zero _)
  | succ n ih =>
    intro y1 y2 hm
    show Ok _ (bX1_isBlank_19 v G (lX1_isBlank_19 v G n) (b + 11) y1 y2)
    unfold bX1_isBlank_19
    refine Ok.i (fun c1 => ?_) (fun c1 => ?_)
    · refine Ok.e gZ_1 ?_
      exact Ok.s (by first | exact Or.inl rfl | exact Or.inr rfl | assumption | exact And.left (by assumption))
    · obtain ⟨_, _, o2⟩ := h0.oD
      refine Ok.e (gR_at o2 rfl) ?_
      refine Ok.b (h0.at_ rk3) (fun x4 _ => ?_)
      refine Ok.i (fun c3 => ?_) (fun c3 => ?_)
      · refine Ok.e rfl ?_
        exact ih _ _   (by first | exact gap_up (by assumption) hm | exact gap_up' (by assumption) hm | exact dist_dn (by assumption) hm | exact dist_dn (n1 (by assumption)) hm | exact dist_dn (n2 (by assumption)) hm | exact gap_up' (lt40 (by assumption) (by assumption)) hm | exact gap_up' (le40 (by assumption) (by assumption)) hm | exact gap_up' (lt65 (by assumption)) hm | exact div10 (by assumption) hm)
      · refine Ok.e gZ_0 ?_
        exact Ok.s (by first | exact Or.inl rfl | exact Or.inr rfl | assumption | exact And.left (by assumption))
theorem pX1_isBlank {v : Nat → Nat} {G0 G : gH} {b : Nat} {O : Nat → Nat → Int32} {P : Nat → Nat → Int64} {lo hi : Nat} {a1 : Int32} (h0 : Rch v G0 b O P lo hi G) : Ok (fun x => x = 0 ∨ x = 1) (fX1_isBlank v G (b + 11) a1) := by
  unfold fX1_isBlank
  obtain ⟨_, _, o1⟩ := h0.oD
  refine Ok.e (gOb_at o1) ?_
  refine Ok.e (gR_at o1 rfl) ?_
  refine Ok.b (h0.count rk3) (fun x2 hu2 => ?_)
  refine Ok.i (fun c3 => ?_) (fun c3 => ?_)
  · exact qX1_isBlank_19 h0  gFu _ _ (gap_fu _ _)
  · refine Ok.e gZ_0 ?_
    exact Ok.s (by first | exact Or.inl rfl | exact Or.inr rfl | assumption | exact And.left (by assumption))
theorem qX1_passEnd_65 {v : Nat → Nat} {G0 G : gH} {b : Nat} {O : Nat → Nat → Int32} {P : Nat → Nat → Int64} (h0 : Rch v G0 b O P 11 266 G)  : ∀ (n : Nat) (y3 : Int32), gap y3 32768 < n → Ok (fun r => Rch v G0 b O P 11 266 r.2) (lX1_passEnd_65 v n G (b + 11) y3) := by
  have lp : ∀ (n : Nat) (G : gH) (y3 : Int32), Rch v G0 b O P 11 266 G → gap y3 32768 < n → Ok (fun r => Rch v G0 b O P 11 266 r.2) (lX1_passEnd_65 v n G (b + 11) y3) := by
    intro n
    induction n with
    | zero => intro G y3 _ h; exact absurd h (Nat.not_lt_zero _)
    | succ n ih =>
      intro G y3 h0 hm
      show Ok _ (bX1_passEnd_65 v (lX1_passEnd_65 v n) G (b + 11) y3)
      unfold bX1_passEnd_65
      obtain ⟨_, _, o1⟩ := h0.oD
      refine Ok.e (gR_at o1 rfl) ?_
      refine Ok.b (h0.count rk3) (fun x2 hu2 => ?_)
      refine Ok.i (fun c3 => ?_) (fun c3 => ?_)
      · unfold jX1_passEnd_97
        refine Ok.e (gR_at o1 rfl) ?_
        refine Ok.b (h0.count rk3) (fun x2 hu4 => ?_)
        refine Ok.i (fun c5 => ?_) (fun c5 => ?_)
        · exact Ok.s h0
        · exact Ok.s h0
      · refine Ok.b (pX1_isBlank h0 ) (fun x5 h6 => ?_)
        refine Ok.i (fun c7 => ?_) (fun c7 => ?_)
        · unfold jX1_passEnd_97
          refine Ok.e (gR_at o1 rfl) ?_
          refine Ok.b (h0.count rk3) (fun x2 hu8 => ?_)
          refine Ok.i (fun c9 => ?_) (fun c9 => ?_)
          · exact Ok.s h0
          · exact Ok.s h0
        · refine Ok.e rfl ?_
          exact ih _ _ h0  (gap_512 (by assumption) (by assumption) hm)
  intro n y3 hm
  exact lp n G y3 h0 hm
theorem pX1_passEnd {v : Nat → Nat} {G0 G : gH} {b : Nat} {O : Nat → Nat → Int32} {P : Nat → Nat → Int64} {a1 : Int32} {a2 : Int32} (h0 : Rch v G0 b O P 11 266 G) : Ok (fun r => Rch v G0 b O P 11 266 r.2) (fX1_passEnd v G (b + 11) a1 a2) := by
  unfold fX1_passEnd
  obtain ⟨_, _, o1⟩ := h0.oD
  refine Ok.e (gOb_at o1) ?_
  refine Ok.b (pX1_isBlank h0 ) (fun x1 h2 => ?_)
  refine Ok.i (fun c3 => ?_) (fun c3 => ?_)
  · refine Ok.e (gR_at o1 rfl) ?_
    refine Ok.b (pX4_end h0 ) (fun x16 h4 => ?_)
    exact Ok.s h4
  · refine Ok.e (gI_at o1 rfl) ?_
    refine Ok.b (h0.pi tm_D8 (by omega)) (fun G5 h5 => ?_)
    obtain ⟨_, _, o6⟩ := h5.oD
    refine Ok.e (gR_at o6 rfl) ?_
    refine Ok.b (pX0_tellsSomething h5 (hA13)) (fun x7 h7 => ?_)
    refine Ok.i (fun c8 => ?_) (fun c8 => ?_)
    · refine Ok.i (fun c9 => ?_) (fun c9 => ?_)
      · exact Ok.s h5
      · refine Ok.e rfl ?_
        exact qX1_passEnd_65 h5  gFu _ (gap_fu _ _)
    · refine Ok.e (gR_at o6 rfl) ?_
      refine Ok.b (pX4_end h5 ) (fun x13 h10 => ?_)
      exact Ok.s h10
theorem qX6_takeOctal_105 {v : Nat → Nat} {G0 G : gH} {b : Nat} {O : Nat → Nat → Int32} {P : Nat → Nat → Int64} (h0 : Rch v G0 b O P 11 266 G)  : ∀ (n : Nat) (y3 : Int32) (y4 : Int32), gap y4 y3 < n → Ok (fun r => (r.1 = 0 ∨ r.1 = 1) ∧ Rch v G0 b O P 11 266 r.2) (lX6_takeOctal_105 v n G (b + 24) y3 y4) := by
  have lp : ∀ (n : Nat) (G : gH) (y3 : Int32) (y4 : Int32), Rch v G0 b O P 11 266 G → gap y4 y3 < n → Ok (fun r => (r.1 = 0 ∨ r.1 = 1) ∧ Rch v G0 b O P 11 266 r.2) (lX6_takeOctal_105 v n G (b + 24) y3 y4) := by
    intro n
    induction n with
    | zero => intro G y3 y4 _ h; exact absurd h (Nat.not_lt_zero _)
    | succ n ih =>
      intro G y3 y4 h0 hm
      show Ok _ (bX6_takeOctal_105 v (lX6_takeOctal_105 v n) G (b + 24) y3 y4)
      unfold bX6_takeOctal_105
      refine Ok.i (fun c1 => ?_) (fun c1 => ?_)
      · unfold jX6_takeOctal_143
        refine Ok.i (fun c2 => ?_) (fun c2 => ?_)
        · refine Ok.e gZ_1 ?_
          exact Ok.s ⟨(by first | exact Or.inl rfl | exact Or.inr rfl | assumption | exact And.left (by assumption)), h0⟩
        · refine Ok.e gZ_0 ?_
          exact Ok.s ⟨(by first | exact Or.inl rfl | exact Or.inr rfl | assumption | exact And.left (by assumption)), h0⟩
      · obtain ⟨_, _, _, _, _, _, o3⟩ := h0.oH
        refine Ok.e (gR_at o3 rfl) ?_
        refine Ok.b (h0.at_ rk3) (fun x3 _ => ?_)
        refine Ok.i (fun c4 => ?_) (fun c4 => ?_)
        · unfold jX6_takeOctal_137
          refine Ok.e rfl ?_
          exact ih _ _ _ h0  (by first | exact gap_up (by assumption) hm | exact gap_up' (by assumption) hm | exact dist_dn (by assumption) hm | exact dist_dn (n1 (by assumption)) hm | exact dist_dn (n2 (by assumption)) hm | exact gap_up' (lt40 (by assumption) (by assumption)) hm | exact gap_up' (le40 (by assumption) (by assumption)) hm | exact gap_up' (lt65 (by assumption)) hm | exact div10 (by assumption) hm)
        · refine Ok.e (gR_at o3 rfl) ?_
          refine Ok.b (h0.at_ rk3) (fun x7 _ => ?_)
          refine Ok.i (fun c5 => ?_) (fun c5 => ?_)
          · unfold jX6_takeOctal_137
            refine Ok.e rfl ?_
            exact ih _ _ _ h0  (by first | exact gap_up (by assumption) hm | exact gap_up' (by assumption) hm | exact dist_dn (by assumption) hm | exact dist_dn (n1 (by assumption)) hm | exact dist_dn (n2 (by assumption)) hm | exact gap_up' (lt40 (by assumption) (by assumption)) hm | exact gap_up' (le40 (by assumption) (by assumption)) hm | exact gap_up' (lt65 (by assumption)) hm | exact div10 (by assumption) hm)
          · unfold jX6_takeOctal_143
            refine Ok.i (fun c6 => ?_) (fun c6 => ?_)
            · refine Ok.e gZ_1 ?_
              exact Ok.s ⟨(by first | exact Or.inl rfl | exact Or.inr rfl | assumption | exact And.left (by assumption)), h0⟩
            · refine Ok.e gZ_0 ?_
              exact Ok.s ⟨(by first | exact Or.inl rfl | exact Or.inr rfl | assumption | exact And.left (by assumption)), h0⟩
  intro n y3 y4 hm
  exact lp n G y3 y4 h0 hm
theorem qX6_takeOctal_38 {v : Nat → Nat} {G0 G : gH} {b : Nat} {O : Nat → Nat → Int32} {P : Nat → Nat → Int64} (h0 : Rch v G0 b O P 11 266 G)  : ∀ (n : Nat) (y3 : Int32) (y4 : Int32), gap y4 y3 < n → Ok (fun r => (r.1 = 0 ∨ r.1 = 1) ∧ Rch v G0 b O P 11 266 r.2) (lX6_takeOctal_38 v n G (b + 24) y3 y4) := by
  have lp : ∀ (n : Nat) (G : gH) (y3 : Int32) (y4 : Int32), Rch v G0 b O P 11 266 G → gap y4 y3 < n → Ok (fun r => (r.1 = 0 ∨ r.1 = 1) ∧ Rch v G0 b O P 11 266 r.2) (lX6_takeOctal_38 v n G (b + 24) y3 y4) := by
    intro n
    induction n with
    | zero => intro G y3 y4 _ h; exact absurd h (Nat.not_lt_zero _)
    | succ n ih =>
      intro G y3 y4 h0 hm
      show Ok _ (bX6_takeOctal_38 v (lX6_takeOctal_38 v n) G (b + 24) y3 y4)
      unfold bX6_takeOctal_38
      refine Ok.i (fun c1 => ?_) (fun c1 => ?_)
      · exact qX6_takeOctal_105 h0  gFu _ _ (gap_fu _ _)
      · obtain ⟨_, _, _, _, _, _, o2⟩ := h0.oH
        refine Ok.e (gR_at o2 rfl) ?_
        refine Ok.b (h0.at_ rk3) (fun x3 _ => ?_)
        refine Ok.i (fun c3 => ?_) (fun c3 => ?_)
        · exact qX6_takeOctal_105 h0  gFu _ _ (gap_fu _ _)
        · refine Ok.e (gR_at o2 rfl) ?_
          refine Ok.b (h0.at_ rk3) (fun x7 _ => ?_)
          refine Ok.i (fun c4 => ?_) (fun c4 => ?_)
          · exact qX6_takeOctal_105 h0  gFu _ _ (gap_fu _ _)
          · refine Ok.e (gJ_at o2 rfl) ?_
            refine Ok.e (gR_at o2 rfl) ?_
            refine Ok.b (h0.at_ rk3) (fun x12 _ => ?_)
            refine Ok.b (h0.pj (tj_H (Or.inl rfl)) (by omega)) (fun G14 h5 => ?_)
            refine Ok.e rfl ?_
            exact ih _ _ _ h5  (by first | exact gap_up (by assumption) hm | exact gap_up' (by assumption) hm | exact dist_dn (by assumption) hm | exact dist_dn (n1 (by assumption)) hm | exact dist_dn (n2 (by assumption)) hm | exact gap_up' (lt40 (by assumption) (by assumption)) hm | exact gap_up' (le40 (by assumption) (by assumption)) hm | exact gap_up' (lt65 (by assumption)) hm | exact div10 (by assumption) hm)
  intro n y3 y4 hm
  exact lp n G y3 y4 h0 hm
theorem qX6_takeOctal_7 {v : Nat → Nat} {G0 G : gH} {b : Nat} {O : Nat → Nat → Int32} {P : Nat → Nat → Int64} (h0 : Rch v G0 b O P 11 266 G)  : ∀ (n : Nat) (y3 : Int32) (y4 : Int32), gap y4 y3 < n → Ok (fun r => (r.1 = 0 ∨ r.1 = 1) ∧ Rch v G0 b O P 11 266 r.2) (lX6_takeOctal_7 v n G (b + 24) y3 y4) := by
  have lp : ∀ (n : Nat) (G : gH) (y3 : Int32) (y4 : Int32), Rch v G0 b O P 11 266 G → gap y4 y3 < n → Ok (fun r => (r.1 = 0 ∨ r.1 = 1) ∧ Rch v G0 b O P 11 266 r.2) (lX6_takeOctal_7 v n G (b + 24) y3 y4) := by
    intro n
    induction n with
    | zero => intro G y3 y4 _ h; exact absurd h (Nat.not_lt_zero _)
    | succ n ih =>
      intro G y3 y4 h0 hm
      show Ok _ (bX6_takeOctal_7 v (lX6_takeOctal_7 v n) G (b + 24) y3 y4)
      unfold bX6_takeOctal_7
      refine Ok.i (fun c1 => ?_) (fun c1 => ?_)
      · unfold jX6_takeOctal_33
        refine Ok.b (h0.pj (tj_H (Or.inl rfl)) (by omega)) (fun G1 h2 => ?_)
        exact qX6_takeOctal_38 h2  gFu _ _ (gap_fu _ _)
      · obtain ⟨_, _, _, _, _, _, o3⟩ := h0.oH
        refine Ok.e (gR_at o3 rfl) ?_
        refine Ok.b (h0.at_ rk3) (fun x3 _ => ?_)
        refine Ok.i (fun c4 => ?_) (fun c4 => ?_)
        · refine Ok.e rfl ?_
          exact ih _ _ _ h0  (by first | exact gap_up (by assumption) hm | exact gap_up' (by assumption) hm | exact dist_dn (by assumption) hm | exact dist_dn (n1 (by assumption)) hm | exact dist_dn (n2 (by assumption)) hm | exact gap_up' (lt40 (by assumption) (by assumption)) hm | exact gap_up' (le40 (by assumption) (by assumption)) hm | exact gap_up' (lt65 (by assumption)) hm | exact div10 (by assumption) hm)
        · unfold jX6_takeOctal_33
          refine Ok.b (h0.pj (tj_H (Or.inl rfl)) (by omega)) (fun G1 h5 => ?_)
          exact qX6_takeOctal_38 h5  gFu _ _ (gap_fu _ _)
  intro n y3 y4 hm
  exact lp n G y3 y4 h0 hm
theorem pX6_takeOctal {v : Nat → Nat} {G0 G : gH} {b : Nat} {O : Nat → Nat → Int32} {P : Nat → Nat → Int64} {a1 : Int32} {a2 : Int32} (h0 : Rch v G0 b O P 11 266 G) : Ok (fun r => (r.1 = 0 ∨ r.1 = 1) ∧ Rch v G0 b O P 11 266 r.2) (fX6_takeOctal v G (b + 24) a1 a2) := by
  unfold fX6_takeOctal
  obtain ⟨_, _, _, _, _, _, o1⟩ := h0.oH
  refine Ok.e (gOb_at o1) ?_
  refine Ok.e rfl ?_
  exact qX6_takeOctal_7 h0  gFu _ _ (gap_fu _ _)
theorem qX10_sumOf_5 {v : Nat → Nat} {G0 G : gH} {b : Nat} {O : Nat → Nat → Int32} {P : Nat → Nat → Int64} {lo hi : Nat} (h0 : Rch v G0 b O P lo hi G) {kr : Nat} (hkr : rkB kr = true)  : ∀ (n : Nat) (y1 : Int32) (y2 : Int32) (y3 : Int32) (y4 : Int32), gap y4 512 < n → Ok (fun _ => True) (lX10_sumOf_5 v G n (b + kr) y1 y2 y3 y4) := by
  have hrlkr := rkB_lt hkr
  intro n
  induction n with
  | zero => intro y1 y2 y3 y4 h; exact absurd h (Nat.not_lt_zero _)
  | succ n ih =>
    intro y1 y2 y3 y4 hm
    show Ok _ (bX10_sumOf_5 v G (lX10_sumOf_5 v G n) (b + kr) y1 y2 y3 y4)
    unfold bX10_sumOf_5
    refine Ok.i (fun c1 => ?_) (fun c1 => ?_)
    · exact Ok.s trivial
    · refine Ok.b (h0.at_ hkr) (fun x2 _ => ?_)
      refine Ok.i (fun c2 => ?_) (fun c2 => ?_)
      · unfold jX10_sumOf_43
        refine Ok.i (fun c3 => ?_) (fun c3 => ?_)
        · unfold jX10_sumOf_56
          refine Ok.e rfl ?_
          refine Ok.e rfl ?_
          exact ih _ _ _ _   (by first | exact gap_up (by assumption) hm | exact gap_up' (by assumption) hm | exact dist_dn (by assumption) hm | exact dist_dn (n1 (by assumption)) hm | exact dist_dn (n2 (by assumption)) hm | exact gap_up' (lt40 (by assumption) (by assumption)) hm | exact gap_up' (le40 (by assumption) (by assumption)) hm | exact gap_up' (lt65 (by assumption)) hm | exact div10 (by assumption) hm)
        · unfold jX10_sumOf_56
          refine Ok.e rfl ?_
          refine Ok.e rfl ?_
          exact ih _ _ _ _   (by first | exact gap_up (by assumption) hm | exact gap_up' (by assumption) hm | exact dist_dn (by assumption) hm | exact dist_dn (n1 (by assumption)) hm | exact dist_dn (n2 (by assumption)) hm | exact gap_up' (lt40 (by assumption) (by assumption)) hm | exact gap_up' (le40 (by assumption) (by assumption)) hm | exact gap_up' (lt65 (by assumption)) hm | exact div10 (by assumption) hm)
      · refine Ok.i (fun c4 => ?_) (fun c4 => ?_)
        · unfold jX10_sumOf_43
          refine Ok.i (fun c5 => ?_) (fun c5 => ?_)
          · unfold jX10_sumOf_56
            refine Ok.e rfl ?_
            refine Ok.e rfl ?_
            exact ih _ _ _ _   (by first | exact gap_up (by assumption) hm | exact gap_up' (by assumption) hm | exact dist_dn (by assumption) hm | exact dist_dn (n1 (by assumption)) hm | exact dist_dn (n2 (by assumption)) hm | exact gap_up' (lt40 (by assumption) (by assumption)) hm | exact gap_up' (le40 (by assumption) (by assumption)) hm | exact gap_up' (lt65 (by assumption)) hm | exact div10 (by assumption) hm)
          · unfold jX10_sumOf_56
            refine Ok.e rfl ?_
            refine Ok.e rfl ?_
            exact ih _ _ _ _   (by first | exact gap_up (by assumption) hm | exact gap_up' (by assumption) hm | exact dist_dn (by assumption) hm | exact dist_dn (n1 (by assumption)) hm | exact dist_dn (n2 (by assumption)) hm | exact gap_up' (lt40 (by assumption) (by assumption)) hm | exact gap_up' (le40 (by assumption) (by assumption)) hm | exact gap_up' (lt65 (by assumption)) hm | exact div10 (by assumption) hm)
        · unfold jX10_sumOf_43
          refine Ok.i (fun c6 => ?_) (fun c6 => ?_)
          · unfold jX10_sumOf_56
            refine Ok.e rfl ?_
            refine Ok.e rfl ?_
            exact ih _ _ _ _   (by first | exact gap_up (by assumption) hm | exact gap_up' (by assumption) hm | exact dist_dn (by assumption) hm | exact dist_dn (n1 (by assumption)) hm | exact dist_dn (n2 (by assumption)) hm | exact gap_up' (lt40 (by assumption) (by assumption)) hm | exact gap_up' (le40 (by assumption) (by assumption)) hm | exact gap_up' (lt65 (by assumption)) hm | exact div10 (by assumption) hm)
          · unfold jX10_sumOf_56
            refine Ok.e rfl ?_
            refine Ok.e rfl ?_
            exact ih _ _ _ _   (by first | exact gap_up (by assumption) hm | exact gap_up' (by assumption) hm | exact dist_dn (by assumption) hm | exact dist_dn (n1 (by assumption)) hm | exact dist_dn (n2 (by assumption)) hm | exact gap_up' (lt40 (by assumption) (by assumption)) hm | exact gap_up' (le40 (by assumption) (by assumption)) hm | exact gap_up' (lt65 (by assumption)) hm | exact div10 (by assumption) hm)
theorem pX10_sumOf {v : Nat → Nat} {G0 G : gH} {b : Nat} {O : Nat → Nat → Int32} {P : Nat → Nat → Int64} {lo hi : Nat} {a1 : Int32} {a2 : Int32} (h0 : Rch v G0 b O P lo hi G) {kr : Nat} (hkr : rkB kr = true) : Ok (fun _ => True) (fX10_sumOf v G (b + kr) a1 a2) := by
  have hrlkr := rkB_lt hkr
  unfold fX10_sumOf
  exact qX10_sumOf_5 h0 (hkr) gFu _ _ _ _ (gap_fu _ _)
theorem pX6_isSumRight {v : Nat → Nat} {G0 G : gH} {b : Nat} {O : Nat → Nat → Int32} {P : Nat → Nat → Int64} {a1 : Int32} (h0 : Rch v G0 b O P 11 266 G) : Ok (fun r => (r.1 = 0 ∨ r.1 = 1) ∧ Rch v G0 b O P 11 266 r.2) (fX6_isSumRight v G (b + 24) a1) := by
  unfold fX6_isSumRight
  obtain ⟨_, _, _, _, _, _, o1⟩ := h0.oH
  refine Ok.e (gOb_at o1) ?_
  refine Ok.b (pX6_takeOctal h0 ) (fun x1 h2 => ?_)
  refine Ok.i (fun c3 => ?_) (fun c3 => ?_)
  · refine Ok.e gZ_0 ?_
    exact Ok.s ⟨(by first | exact Or.inl rfl | exact Or.inr rfl | assumption | exact And.left (by assumption)), h2.2⟩
  · obtain ⟨_, _, _, _, _, _, o4⟩ := h2.2.oH
    refine Ok.e (gJ_at o4 rfl) ?_
    refine Ok.e (gR_at o4 rfl) ?_
    refine Ok.b (pX10_sumOf h2.2 (rk3)) (fun x7 h5 => ?_)
    refine Ok.i (fun c6 => ?_) (fun c6 => ?_)
    · unfold jX6_isSumRight_50
      refine Ok.e gZ_1 ?_
      exact Ok.s ⟨(by first | exact Or.inl rfl | exact Or.inr rfl | assumption | exact And.left (by assumption)), h2.2⟩
    · refine Ok.e (gJ_at o4 rfl) ?_
      refine Ok.e (gR_at o4 rfl) ?_
      refine Ok.b (pX10_sumOf h2.2 (rk3)) (fun x12 h7 => ?_)
      refine Ok.i (fun c8 => ?_) (fun c8 => ?_)
      · unfold jX6_isSumRight_50
        refine Ok.e gZ_1 ?_
        exact Ok.s ⟨(by first | exact Or.inl rfl | exact Or.inr rfl | assumption | exact And.left (by assumption)), h2.2⟩
      · refine Ok.e gZ_0 ?_
        exact Ok.s ⟨(by first | exact Or.inl rfl | exact Or.inr rfl | assumption | exact And.left (by assumption)), h2.2⟩
theorem qX6_takeBy256_100 {v : Nat → Nat} {G0 G : gH} {b : Nat} {O : Nat → Nat → Int32} {P : Nat → Nat → Int64} (h0 : Rch v G0 b O P 11 266 G)  : ∀ (n : Nat) (y3 : Int32) (y4 : Int32) (y6 : Int32), gap y6 y4 < n → Ok (fun r => (r.1 = 0 ∨ r.1 = 1) ∧ Rch v G0 b O P 11 266 r.2) (lX6_takeBy256_100 v n G (b + 24) y3 y4 y6) := by
  have lp : ∀ (n : Nat) (G : gH) (y3 : Int32) (y4 : Int32) (y6 : Int32), Rch v G0 b O P 11 266 G → gap y6 y4 < n → Ok (fun r => (r.1 = 0 ∨ r.1 = 1) ∧ Rch v G0 b O P 11 266 r.2) (lX6_takeBy256_100 v n G (b + 24) y3 y4 y6) := by
    intro n
    induction n with
    | zero => intro G y3 y4 y6 _ h; exact absurd h (Nat.not_lt_zero _)
    | succ n ih =>
      intro G y3 y4 y6 h0 hm
      show Ok _ (bX6_takeBy256_100 v (lX6_takeBy256_100 v n) G (b + 24) y3 y4 y6)
      unfold bX6_takeBy256_100
      refine Ok.i (fun c1 => ?_) (fun c1 => ?_)
      · obtain ⟨_, _, _, _, _, _, o2⟩ := h0.oH
        refine Ok.e (gJ_at o2 rfl) ?_
        refine Ok.i (fun c3 => ?_) (fun c3 => ?_)
        · unfold jX6_takeBy256_149
          refine Ok.i (fun c4 => ?_) (fun c4 => ?_)
          · refine Ok.e gZ_1 ?_
            exact Ok.s ⟨(by first | exact Or.inl rfl | exact Or.inr rfl | assumption | exact And.left (by assumption)), h0⟩
          · refine Ok.e gZ_0 ?_
            exact Ok.s ⟨(by first | exact Or.inl rfl | exact Or.inr rfl | assumption | exact And.left (by assumption)), h0⟩
        · unfold jX6_takeBy256_149
          refine Ok.i (fun c5 => ?_) (fun c5 => ?_)
          · refine Ok.e gZ_1 ?_
            exact Ok.s ⟨(by first | exact Or.inl rfl | exact Or.inr rfl | assumption | exact And.left (by assumption)), h0⟩
          · refine Ok.e gZ_0 ?_
            exact Ok.s ⟨(by first | exact Or.inl rfl | exact Or.inr rfl | assumption | exact And.left (by assumption)), h0⟩
      · obtain ⟨_, _, _, _, _, _, o6⟩ := h0.oH
        refine Ok.e (gJ_at o6 rfl) ?_
        refine Ok.e (gR_at o6 rfl) ?_
        refine Ok.b (h0.at_ rk3) (fun x6 _ => ?_)
        refine Ok.b (h0.pj (tj_H (Or.inl rfl)) (by omega)) (fun G8 h7 => ?_)
        refine Ok.e rfl ?_
        exact ih _ _ _ _ h7  (by first | exact gap_up (by assumption) hm | exact gap_up' (by assumption) hm | exact dist_dn (by assumption) hm | exact dist_dn (n1 (by assumption)) hm | exact dist_dn (n2 (by assumption)) hm | exact gap_up' (lt40 (by assumption) (by assumption)) hm | exact gap_up' (le40 (by assumption) (by assumption)) hm | exact gap_up' (lt65 (by assumption)) hm | exact div10 (by assumption) hm)
  intro n y3 y4 y6 hm
  exact lp n G y3 y4 y6 h0 hm
theorem qX6_takeBy256_43 {v : Nat → Nat} {G0 G : gH} {b : Nat} {O : Nat → Nat → Int32} {P : Nat → Nat → Int64} (h0 : Rch v G0 b O P 11 266 G)  : ∀ (n : Nat) (y3 : Int32) (y4 : Int32) (y5 : Int32) (y6 : Int32), gap y6 y5 < n → Ok (fun r => (r.1 = 0 ∨ r.1 = 1) ∧ Rch v G0 b O P 11 266 r.2) (lX6_takeBy256_43 v n G (b + 24) y3 y4 y5 y6) := by
  have lp : ∀ (n : Nat) (G : gH) (y3 : Int32) (y4 : Int32) (y5 : Int32) (y6 : Int32), Rch v G0 b O P 11 266 G → gap y6 y5 < n → Ok (fun r => (r.1 = 0 ∨ r.1 = 1) ∧ Rch v G0 b O P 11 266 r.2) (lX6_takeBy256_43 v n G (b + 24) y3 y4 y5 y6) := by
    intro n
    induction n with
    | zero => intro G y3 y4 y5 y6 _ h; exact absurd h (Nat.not_lt_zero _)
    | succ n ih =>
      intro G y3 y4 y5 y6 h0 hm
      show Ok _ (bX6_takeBy256_43 v (lX6_takeBy256_43 v n) G (b + 24) y3 y4 y5 y6)
      unfold bX6_takeBy256_43
      refine Ok.i (fun c1 => ?_) (fun c1 => ?_)
      · refine Ok.i (fun c2 => ?_) (fun c2 => ?_)
        · unfold jX6_takeBy256_93
          refine Ok.b (h0.pj (tj_H (Or.inl rfl)) (by omega)) (fun G1 h3 => ?_)
          exact qX6_takeBy256_100 h3  gFu _ _ _ (gap_fu _ _)
        · unfold jX6_takeBy256_93
          refine Ok.b (h0.pj (tj_H (Or.inl rfl)) (by omega)) (fun G1 h4 => ?_)
          exact qX6_takeBy256_100 h4  gFu _ _ _ (gap_fu _ _)
      · obtain ⟨_, _, _, _, _, _, o5⟩ := h0.oH
        refine Ok.e (gR_at o5 rfl) ?_
        refine Ok.b (h0.at_ rk3) (fun x4 _ => ?_)
        refine Ok.i (fun c6 => ?_) (fun c6 => ?_)
        · unfold jX6_takeBy256_70
          refine Ok.i (fun c7 => ?_) (fun c7 => ?_)
          · refine Ok.e rfl ?_
            exact ih _ _ _ _ _ h0  (by first | exact gap_up (by assumption) hm | exact gap_up' (by assumption) hm | exact dist_dn (by assumption) hm | exact dist_dn (n1 (by assumption)) hm | exact dist_dn (n2 (by assumption)) hm | exact gap_up' (lt40 (by assumption) (by assumption)) hm | exact gap_up' (le40 (by assumption) (by assumption)) hm | exact gap_up' (lt65 (by assumption)) hm | exact div10 (by assumption) hm)
          · refine Ok.e gZ_0 ?_
            exact Ok.s ⟨(by first | exact Or.inl rfl | exact Or.inr rfl | assumption | exact And.left (by assumption)), h0⟩
        · unfold jX6_takeBy256_70
          refine Ok.i (fun c8 => ?_) (fun c8 => ?_)
          · refine Ok.e rfl ?_
            exact ih _ _ _ _ _ h0  (by first | exact gap_up (by assumption) hm | exact gap_up' (by assumption) hm | exact dist_dn (by assumption) hm | exact dist_dn (n1 (by assumption)) hm | exact dist_dn (n2 (by assumption)) hm | exact gap_up' (lt40 (by assumption) (by assumption)) hm | exact gap_up' (le40 (by assumption) (by assumption)) hm | exact gap_up' (lt65 (by assumption)) hm | exact div10 (by assumption) hm)
          · refine Ok.e gZ_0 ?_
            exact Ok.s ⟨(by first | exact Or.inl rfl | exact Or.inr rfl | assumption | exact And.left (by assumption)), h0⟩
  intro n y3 y4 y5 y6 hm
  exact lp n G y3 y4 y5 y6 h0 hm
theorem pX6_takeBy256 {v : Nat → Nat} {G0 G : gH} {b : Nat} {O : Nat → Nat → Int32} {P : Nat → Nat → Int64} {a1 : Int32} {a2 : Int32} (h0 : Rch v G0 b O P 11 266 G) : Ok (fun r => (r.1 = 0 ∨ r.1 = 1) ∧ Rch v G0 b O P 11 266 r.2) (fX6_takeBy256 v G (b + 24) a1 a2) := by
  unfold fX6_takeBy256
  obtain ⟨_, _, _, _, _, _, o1⟩ := h0.oH
  refine Ok.e (gOb_at o1) ?_
  refine Ok.e (gR_at o1 rfl) ?_
  refine Ok.b (h0.at_ rk3) (fun x2 _ => ?_)
  refine Ok.i (fun c2 => ?_) (fun c2 => ?_)
  · unfold jX6_takeBy256_19
    refine Ok.e rfl ?_
    refine Ok.e rfl ?_
    refine Ok.e rfl ?_
    exact qX6_takeBy256_43 h0  gFu _ _ _ _ (gap_fu _ _)
  · unfold jX6_takeBy256_19
    refine Ok.e rfl ?_
    refine Ok.e rfl ?_
    refine Ok.e rfl ?_
    exact qX6_takeBy256_43 h0  gFu _ _ _ _ (gap_fu _ _)
