def gTJ (l : List Int64) : Nat → Value := fun j => .long (l.getD j 0)
def gTI (l : List Int32) : Nat → Value := fun j => .int (l.getD j 0)
theorem st_T {ty : FieldType} {t N : Nat} {f : Nat → Value} {A : Nat → Prop} {U : State} {H : Heap} (h : va_T ty t N f A U H) (hno : ∀ C, ty ≠ .object C) : gArr U H t ty N f := by
  obtain ⟨cell, h1, h2, h3, h4, h5, h6, -⟩ := h
  exact ⟨cell, h1, h2, h3, h4, h5, h6, fun C hC => absurd hC (hno C)⟩
theorem st_X {b L : Nat} {xs : Nat → Int32} {U : State} {H : Heap} (h : va_X b L xs U H) : gArr U H b .int L (fun j => .int (xs j)) := by
  obtain ⟨scr, h1, h2, h3, h4, h5⟩ := h
  exact ⟨scr, h1, h2, h3, by rw [h4]; exact Nat.le_refl _, by rw [h4], h5, fun C hC => by cases hC⟩
/-- two arrays at one address are one array -/
theorem st_one {U : State} {H : Heap} {q : Nat} {ty ty' : FieldType} {n n' : Nat} {f f' : Nat → Value} (h : gArr U H q ty n f) (h' : gArr U H q ty' n' f') (hn : n < 2 ^ 31) (hn' : n' < 2 ^ 31) : ty = ty' ∧ n = n' ∧ ∀ j, j < n → f j = f' j := by
  obtain ⟨cell, h1, h2, h3, h4, h5, h6, -⟩ := h
  obtain ⟨cell', g1, g2, g3, g4, g5, g6, -⟩ := h'
  cases h1.symm.trans g1
  have hnn : n = n' := by
    have e : Int32.ofNat n = Int32.ofNat n' := h5.symm.trans g5
    exact (nI_eq hn hn').mp e
  refine ⟨?_, hnn, fun j hj => ?_⟩
  · obtain ⟨-, k, hk, comp, hkind⟩ := h2
    obtain ⟨-, k', hk', comp', hkind'⟩ := g2
    cases hk.symm.trans hk'
    have := hkind.symm.trans hkind'
    simp at this
    exact this.2
  · exact Option.some.inj ((h6 j hj).symm.trans (g6 j (by omega)))
theorem st_ne {U : State} {H : Heap} {q q' : Nat} {ty ty' : FieldType} {n n' : Nat} {f f' : Nat → Value} (h : gArr U H q ty n f) (h' : gArr U H q' ty' n' f') (hn : n < 2 ^ 31) (hn' : n' < 2 ^ 31) (hd : ty ≠ ty' ∨ n ≠ n' ∨ ∃ j, j < n ∧ f j ≠ f' j) : q ≠ q' := by
  intro e
  subst e
  obtain ⟨h1, h2, h3⟩ := st_one h h' hn hn'
  rcases hd with d | d | ⟨j, hj, d⟩
  · exact d h1
  · exact d h2
  · exact d (h3 j hj)
theorem st_str {args : Array Value} {s : State} {tm : Term} {N : Nat} {byt : List Int32} {A : Nat → Prop} (hN : N < 2 ^ 31) (hex : (Cond.exactly tm "java/lang/String").before args s = true) (hco : (Cond.eq (.field tm "java/lang/String" "coder" "B") (.int 0)).before args s = true)
    (har : (Cond.arrayOf (.field tm "java/lang/String" "value" "[B") .byte).before args s = true) (hle : (Cond.eq (.length (.field tm "java/lang/String" "value" "[B")) (.int (Int32.ofNat N))).before args s = true)
    (hel : ∀ j : Nat, j < N → (Cond.eq (.elem (.field tm "java/lang/String" "value" "[B") (.int (Int32.ofNat j))) (.int (byt.getD j 0))).before args s = true) (hA : ∀ a : Nat, a < s.heap.size → ¬ A a) :
    ∃ a t : Nat, tm.eval args s none [] s = some (.ref a) ∧ va_O "java/lang/String" a A s s.heap ∧ va_OF "java/lang/String" "value" "[B" (.ref t) a A s s.heap ∧ va_OF "java/lang/String" "coder" "B" (.int 0) a A s s.heap ∧ va_T .byte t N (gTI byt) A s s.heap := by
  obtain ⟨a, c, cA, kA, q1, q2, q3, q4, q5, q6, -⟩ := Cond.exactly_spec (args := args) (first := s) (o := none) (s := s) (idx := []) (t := tm) (cls := "java/lang/String") hex
  obtain ⟨t, ht, hT⟩ := va_Tof (f := gTI byt) (A := A) hN har (va_eqt hle) (fun j hj => va_eqt (hel j hj)) hA
  exact ⟨a, t, q1, ⟨cA, q3, q5, by rw [q6]; exact q2, hA a (Array.getElem?_eq_some_iff.mp q3).1⟩, vk_OFof q1 ht hA, vk_OFof q1 (va_eqt hco) hA, hT⟩
set_option maxRecDepth 100000 in
theorem st_t0 {b : Nat} {s : State} (hs : ∀ c ∈ flatC (Jvm.Cond.and given_1 narrow_1), c.before #[Value.ref b] s = true) : ∃ t : Nat, (Term.static "TarForms" "LEAST" "[J").eval #[Value.ref b] s none [] s = some (.ref t) ∧ va_T .long t 5 (gTJ ([0, 0, 0, -1099511627776, 0] : List Int64)) (gA s.heap.size) s s.heap := by
  refine va_Tof (by decide) (hs (Cond.arrayOf (Term.static "TarForms" "LEAST" "[J") .long) (by decide +kernel)) (va_eqt (hs (Cond.eq (.length (Term.static "TarForms" "LEAST" "[J")) (.int (Int32.ofNat 5))) (by decide +kernel))) (fun j hj => ?_) (fun a h => Nat.not_le.mpr h)
  rcases (show j = 0 ∨ j = 1 ∨ j = 2 ∨ j = 3 ∨ j = 4 by omega) with rfl | rfl | rfl | rfl | rfl
  · exact va_eqtl (hs (Cond.eq (.elem (Term.static "TarForms" "LEAST" "[J") (.int (Int32.ofNat 0))) (.long (([0, 0, 0, -1099511627776, 0] : List Int64).getD 0 0))) (by decide +kernel))
  · exact va_eqtl (hs (Cond.eq (.elem (Term.static "TarForms" "LEAST" "[J") (.int (Int32.ofNat 1))) (.long (([0, 0, 0, -1099511627776, 0] : List Int64).getD 1 0))) (by decide +kernel))
  · exact va_eqtl (hs (Cond.eq (.elem (Term.static "TarForms" "LEAST" "[J") (.int (Int32.ofNat 2))) (.long (([0, 0, 0, -1099511627776, 0] : List Int64).getD 2 0))) (by decide +kernel))
  · exact va_eqtl (hs (Cond.eq (.elem (Term.static "TarForms" "LEAST" "[J") (.int (Int32.ofNat 3))) (.long (([0, 0, 0, -1099511627776, 0] : List Int64).getD 3 0))) (by decide +kernel))
  · exact va_eqtl (hs (Cond.eq (.elem (Term.static "TarForms" "LEAST" "[J") (.int (Int32.ofNat 4))) (.long (([0, 0, 0, -1099511627776, 0] : List Int64).getD 4 0))) (by decide +kernel))
set_option maxRecDepth 100000 in
theorem st_t1 {b : Nat} {s : State} (hs : ∀ c ∈ flatC (Jvm.Cond.and given_1 narrow_1), c.before #[Value.ref b] s = true) : ∃ t : Nat, (Term.static "TarForms" "MOST" "[J").eval #[Value.ref b] s none [] s = some (.ref t) ∧ va_T .long t 5 (gTJ ([4095, 36028797018963968, 36028797018963968, 1125899906842624, 999999999] : List Int64)) (gA s.heap.size) s s.heap := by
  refine va_Tof (by decide) (hs (Cond.arrayOf (Term.static "TarForms" "MOST" "[J") .long) (by decide +kernel)) (va_eqt (hs (Cond.eq (.length (Term.static "TarForms" "MOST" "[J")) (.int (Int32.ofNat 5))) (by decide +kernel))) (fun j hj => ?_) (fun a h => Nat.not_le.mpr h)
  rcases (show j = 0 ∨ j = 1 ∨ j = 2 ∨ j = 3 ∨ j = 4 by omega) with rfl | rfl | rfl | rfl | rfl
  · exact va_eqtl (hs (Cond.eq (.elem (Term.static "TarForms" "MOST" "[J") (.int (Int32.ofNat 0))) (.long (([4095, 36028797018963968, 36028797018963968, 1125899906842624, 999999999] : List Int64).getD 0 0))) (by decide +kernel))
  · exact va_eqtl (hs (Cond.eq (.elem (Term.static "TarForms" "MOST" "[J") (.int (Int32.ofNat 1))) (.long (([4095, 36028797018963968, 36028797018963968, 1125899906842624, 999999999] : List Int64).getD 1 0))) (by decide +kernel))
  · exact va_eqtl (hs (Cond.eq (.elem (Term.static "TarForms" "MOST" "[J") (.int (Int32.ofNat 2))) (.long (([4095, 36028797018963968, 36028797018963968, 1125899906842624, 999999999] : List Int64).getD 2 0))) (by decide +kernel))
  · exact va_eqtl (hs (Cond.eq (.elem (Term.static "TarForms" "MOST" "[J") (.int (Int32.ofNat 3))) (.long (([4095, 36028797018963968, 36028797018963968, 1125899906842624, 999999999] : List Int64).getD 3 0))) (by decide +kernel))
  · exact va_eqtl (hs (Cond.eq (.elem (Term.static "TarForms" "MOST" "[J") (.int (Int32.ofNat 4))) (.long (([4095, 36028797018963968, 36028797018963968, 1125899906842624, 999999999] : List Int64).getD 4 0))) (by decide +kernel))
set_option maxRecDepth 100000 in
theorem st_t2 {b : Nat} {s : State} (hs : ∀ c ∈ flatC (Jvm.Cond.and given_1 narrow_1), c.before #[Value.ref b] s = true) : ∃ t : Nat, (Term.static "TarForms" "LONG_MAGIC" "[I").eval #[Value.ref b] s none [] s = some (.ref t) ∧ va_T .int t 8 (gTI ([117, 115, 116, 97, 114, 32, 32, 0] : List Int32)) (gA s.heap.size) s s.heap := by
  refine va_Tof (by decide) (hs (Cond.arrayOf (Term.static "TarForms" "LONG_MAGIC" "[I") .int) (by decide +kernel)) (va_eqt (hs (Cond.eq (.length (Term.static "TarForms" "LONG_MAGIC" "[I")) (.int (Int32.ofNat 8))) (by decide +kernel))) (fun j hj => ?_) (fun a h => Nat.not_le.mpr h)
  rcases (show j = 0 ∨ j = 1 ∨ j = 2 ∨ j = 3 ∨ j = 4 ∨ j = 5 ∨ j = 6 ∨ j = 7 by omega) with rfl | rfl | rfl | rfl | rfl | rfl | rfl | rfl
  · exact va_eqt (hs (Cond.eq (.elem (Term.static "TarForms" "LONG_MAGIC" "[I") (.int (Int32.ofNat 0))) (.int (([117, 115, 116, 97, 114, 32, 32, 0] : List Int32).getD 0 0))) (by decide +kernel))
  · exact va_eqt (hs (Cond.eq (.elem (Term.static "TarForms" "LONG_MAGIC" "[I") (.int (Int32.ofNat 1))) (.int (([117, 115, 116, 97, 114, 32, 32, 0] : List Int32).getD 1 0))) (by decide +kernel))
  · exact va_eqt (hs (Cond.eq (.elem (Term.static "TarForms" "LONG_MAGIC" "[I") (.int (Int32.ofNat 2))) (.int (([117, 115, 116, 97, 114, 32, 32, 0] : List Int32).getD 2 0))) (by decide +kernel))
  · exact va_eqt (hs (Cond.eq (.elem (Term.static "TarForms" "LONG_MAGIC" "[I") (.int (Int32.ofNat 3))) (.int (([117, 115, 116, 97, 114, 32, 32, 0] : List Int32).getD 3 0))) (by decide +kernel))
  · exact va_eqt (hs (Cond.eq (.elem (Term.static "TarForms" "LONG_MAGIC" "[I") (.int (Int32.ofNat 4))) (.int (([117, 115, 116, 97, 114, 32, 32, 0] : List Int32).getD 4 0))) (by decide +kernel))
  · exact va_eqt (hs (Cond.eq (.elem (Term.static "TarForms" "LONG_MAGIC" "[I") (.int (Int32.ofNat 5))) (.int (([117, 115, 116, 97, 114, 32, 32, 0] : List Int32).getD 5 0))) (by decide +kernel))
  · exact va_eqt (hs (Cond.eq (.elem (Term.static "TarForms" "LONG_MAGIC" "[I") (.int (Int32.ofNat 6))) (.int (([117, 115, 116, 97, 114, 32, 32, 0] : List Int32).getD 6 0))) (by decide +kernel))
  · exact va_eqt (hs (Cond.eq (.elem (Term.static "TarForms" "LONG_MAGIC" "[I") (.int (Int32.ofNat 7))) (.int (([117, 115, 116, 97, 114, 32, 32, 0] : List Int32).getD 7 0))) (by decide +kernel))
set_option maxRecDepth 100000 in
theorem st_t3 {b : Nat} {s : State} (hs : ∀ c ∈ flatC (Jvm.Cond.and given_1 narrow_1), c.before #[Value.ref b] s = true) : ∃ t : Nat, (Term.static "TarForms" "USTAR_MAGIC" "[I").eval #[Value.ref b] s none [] s = some (.ref t) ∧ va_T .int t 8 (gTI ([117, 115, 116, 97, 114, 0, 48, 48] : List Int32)) (gA s.heap.size) s s.heap := by
  refine va_Tof (by decide) (hs (Cond.arrayOf (Term.static "TarForms" "USTAR_MAGIC" "[I") .int) (by decide +kernel)) (va_eqt (hs (Cond.eq (.length (Term.static "TarForms" "USTAR_MAGIC" "[I")) (.int (Int32.ofNat 8))) (by decide +kernel))) (fun j hj => ?_) (fun a h => Nat.not_le.mpr h)
  rcases (show j = 0 ∨ j = 1 ∨ j = 2 ∨ j = 3 ∨ j = 4 ∨ j = 5 ∨ j = 6 ∨ j = 7 by omega) with rfl | rfl | rfl | rfl | rfl | rfl | rfl | rfl
  · exact va_eqt (hs (Cond.eq (.elem (Term.static "TarForms" "USTAR_MAGIC" "[I") (.int (Int32.ofNat 0))) (.int (([117, 115, 116, 97, 114, 0, 48, 48] : List Int32).getD 0 0))) (by decide +kernel))
  · exact va_eqt (hs (Cond.eq (.elem (Term.static "TarForms" "USTAR_MAGIC" "[I") (.int (Int32.ofNat 1))) (.int (([117, 115, 116, 97, 114, 0, 48, 48] : List Int32).getD 1 0))) (by decide +kernel))
  · exact va_eqt (hs (Cond.eq (.elem (Term.static "TarForms" "USTAR_MAGIC" "[I") (.int (Int32.ofNat 2))) (.int (([117, 115, 116, 97, 114, 0, 48, 48] : List Int32).getD 2 0))) (by decide +kernel))
  · exact va_eqt (hs (Cond.eq (.elem (Term.static "TarForms" "USTAR_MAGIC" "[I") (.int (Int32.ofNat 3))) (.int (([117, 115, 116, 97, 114, 0, 48, 48] : List Int32).getD 3 0))) (by decide +kernel))
  · exact va_eqt (hs (Cond.eq (.elem (Term.static "TarForms" "USTAR_MAGIC" "[I") (.int (Int32.ofNat 4))) (.int (([117, 115, 116, 97, 114, 0, 48, 48] : List Int32).getD 4 0))) (by decide +kernel))
  · exact va_eqt (hs (Cond.eq (.elem (Term.static "TarForms" "USTAR_MAGIC" "[I") (.int (Int32.ofNat 5))) (.int (([117, 115, 116, 97, 114, 0, 48, 48] : List Int32).getD 5 0))) (by decide +kernel))
  · exact va_eqt (hs (Cond.eq (.elem (Term.static "TarForms" "USTAR_MAGIC" "[I") (.int (Int32.ofNat 6))) (.int (([117, 115, 116, 97, 114, 0, 48, 48] : List Int32).getD 6 0))) (by decide +kernel))
  · exact va_eqt (hs (Cond.eq (.elem (Term.static "TarForms" "USTAR_MAGIC" "[I") (.int (Int32.ofNat 7))) (.int (([117, 115, 116, 97, 114, 0, 48, 48] : List Int32).getD 7 0))) (by decide +kernel))
set_option maxRecDepth 100000 in
theorem st_t4 {b : Nat} {s : State} (hs : ∀ c ∈ flatC (Jvm.Cond.and given_1 narrow_1), c.before #[Value.ref b] s = true) : ∃ t : Nat, (Term.static "TarForms$HeadNumbers" "PLACES" "[I").eval #[Value.ref b] s none [] s = some (.ref t) ∧ va_T .int t 5 (gTI ([100, 108, 116, 124, 136] : List Int32)) (gA s.heap.size) s s.heap := by
  refine va_Tof (by decide) (hs (Cond.arrayOf (Term.static "TarForms$HeadNumbers" "PLACES" "[I") .int) (by decide +kernel)) (va_eqt (hs (Cond.eq (.length (Term.static "TarForms$HeadNumbers" "PLACES" "[I")) (.int (Int32.ofNat 5))) (by decide +kernel))) (fun j hj => ?_) (fun a h => Nat.not_le.mpr h)
  rcases (show j = 0 ∨ j = 1 ∨ j = 2 ∨ j = 3 ∨ j = 4 by omega) with rfl | rfl | rfl | rfl | rfl
  · exact va_eqt (hs (Cond.eq (.elem (Term.static "TarForms$HeadNumbers" "PLACES" "[I") (.int (Int32.ofNat 0))) (.int (([100, 108, 116, 124, 136] : List Int32).getD 0 0))) (by decide +kernel))
  · exact va_eqt (hs (Cond.eq (.elem (Term.static "TarForms$HeadNumbers" "PLACES" "[I") (.int (Int32.ofNat 1))) (.int (([100, 108, 116, 124, 136] : List Int32).getD 1 0))) (by decide +kernel))
  · exact va_eqt (hs (Cond.eq (.elem (Term.static "TarForms$HeadNumbers" "PLACES" "[I") (.int (Int32.ofNat 2))) (.int (([100, 108, 116, 124, 136] : List Int32).getD 2 0))) (by decide +kernel))
  · exact va_eqt (hs (Cond.eq (.elem (Term.static "TarForms$HeadNumbers" "PLACES" "[I") (.int (Int32.ofNat 3))) (.int (([100, 108, 116, 124, 136] : List Int32).getD 3 0))) (by decide +kernel))
  · exact va_eqt (hs (Cond.eq (.elem (Term.static "TarForms$HeadNumbers" "PLACES" "[I") (.int (Int32.ofNat 4))) (.int (([100, 108, 116, 124, 136] : List Int32).getD 4 0))) (by decide +kernel))
set_option maxRecDepth 100000 in
theorem st_t5 {b : Nat} {s : State} (hs : ∀ c ∈ flatC (Jvm.Cond.and given_1 narrow_1), c.before #[Value.ref b] s = true) : ∃ t : Nat, (Term.static "TarForms$HeadNumbers" "WIDTHS" "[I").eval #[Value.ref b] s none [] s = some (.ref t) ∧ va_T .int t 5 (gTI ([8, 8, 8, 12, 12] : List Int32)) (gA s.heap.size) s s.heap := by
  refine va_Tof (by decide) (hs (Cond.arrayOf (Term.static "TarForms$HeadNumbers" "WIDTHS" "[I") .int) (by decide +kernel)) (va_eqt (hs (Cond.eq (.length (Term.static "TarForms$HeadNumbers" "WIDTHS" "[I")) (.int (Int32.ofNat 5))) (by decide +kernel))) (fun j hj => ?_) (fun a h => Nat.not_le.mpr h)
  rcases (show j = 0 ∨ j = 1 ∨ j = 2 ∨ j = 3 ∨ j = 4 by omega) with rfl | rfl | rfl | rfl | rfl
  · exact va_eqt (hs (Cond.eq (.elem (Term.static "TarForms$HeadNumbers" "WIDTHS" "[I") (.int (Int32.ofNat 0))) (.int (([8, 8, 8, 12, 12] : List Int32).getD 0 0))) (by decide +kernel))
  · exact va_eqt (hs (Cond.eq (.elem (Term.static "TarForms$HeadNumbers" "WIDTHS" "[I") (.int (Int32.ofNat 1))) (.int (([8, 8, 8, 12, 12] : List Int32).getD 1 0))) (by decide +kernel))
  · exact va_eqt (hs (Cond.eq (.elem (Term.static "TarForms$HeadNumbers" "WIDTHS" "[I") (.int (Int32.ofNat 2))) (.int (([8, 8, 8, 12, 12] : List Int32).getD 2 0))) (by decide +kernel))
  · exact va_eqt (hs (Cond.eq (.elem (Term.static "TarForms$HeadNumbers" "WIDTHS" "[I") (.int (Int32.ofNat 3))) (.int (([8, 8, 8, 12, 12] : List Int32).getD 3 0))) (by decide +kernel))
  · exact va_eqt (hs (Cond.eq (.elem (Term.static "TarForms$HeadNumbers" "WIDTHS" "[I") (.int (Int32.ofNat 4))) (.int (([8, 8, 8, 12, 12] : List Int32).getD 4 0))) (by decide +kernel))
set_option maxRecDepth 100000 in
theorem st_s0 {b : Nat} {s : State} (hs : ∀ c ∈ flatC (Jvm.Cond.and given_1 narrow_1), c.before #[Value.ref b] s = true) : ∃ a t : Nat, (Term.string "TarForms$ArchiveReader" 211).eval #[Value.ref b] s none [] s = some (.ref a) ∧ va_O "java/lang/String" a (gA s.heap.size) s s.heap ∧ va_OF "java/lang/String" "value" "[B" (.ref t) a (gA s.heap.size) s s.heap ∧ va_OF "java/lang/String" "coder" "B" (.int 0) a (gA s.heap.size) s s.heap ∧ va_T .byte t 5 (gTI ([117, 115, 116, 97, 114] : List Int32)) (gA s.heap.size) s s.heap := by
  refine st_str (by decide) (hs (Cond.exactly (Term.string "TarForms$ArchiveReader" 211) "java/lang/String") (by decide +kernel)) (hs (Cond.eq (.field (Term.string "TarForms$ArchiveReader" 211) "java/lang/String" "coder" "B") (.int 0)) (by decide +kernel)) (hs (Cond.arrayOf (.field (Term.string "TarForms$ArchiveReader" 211) "java/lang/String" "value" "[B") .byte) (by decide +kernel)) (hs (Cond.eq (.length (.field (Term.string "TarForms$ArchiveReader" 211) "java/lang/String" "value" "[B")) (.int (Int32.ofNat 5))) (by decide +kernel)) (fun j hj => ?_) (fun a h => Nat.not_le.mpr h)
  rcases (show j = 0 ∨ j = 1 ∨ j = 2 ∨ j = 3 ∨ j = 4 by omega) with rfl | rfl | rfl | rfl | rfl
  · exact hs (Cond.eq (.elem (.field (Term.string "TarForms$ArchiveReader" 211) "java/lang/String" "value" "[B") (.int (Int32.ofNat 0))) (.int (([117, 115, 116, 97, 114] : List Int32).getD 0 0))) (by decide +kernel)
  · exact hs (Cond.eq (.elem (.field (Term.string "TarForms$ArchiveReader" 211) "java/lang/String" "value" "[B") (.int (Int32.ofNat 1))) (.int (([117, 115, 116, 97, 114] : List Int32).getD 1 0))) (by decide +kernel)
  · exact hs (Cond.eq (.elem (.field (Term.string "TarForms$ArchiveReader" 211) "java/lang/String" "value" "[B") (.int (Int32.ofNat 2))) (.int (([117, 115, 116, 97, 114] : List Int32).getD 2 0))) (by decide +kernel)
  · exact hs (Cond.eq (.elem (.field (Term.string "TarForms$ArchiveReader" 211) "java/lang/String" "value" "[B") (.int (Int32.ofNat 3))) (.int (([117, 115, 116, 97, 114] : List Int32).getD 3 0))) (by decide +kernel)
  · exact hs (Cond.eq (.elem (.field (Term.string "TarForms$ArchiveReader" 211) "java/lang/String" "value" "[B") (.int (Int32.ofNat 4))) (.int (([117, 115, 116, 97, 114] : List Int32).getD 4 0))) (by decide +kernel)
set_option maxRecDepth 100000 in
theorem st_s1 {b : Nat} {s : State} (hs : ∀ c ∈ flatC (Jvm.Cond.and given_1 narrow_1), c.before #[Value.ref b] s = true) : ∃ a t : Nat, (Term.string "TarForms$ArchiveWriter" 143).eval #[Value.ref b] s none [] s = some (.ref a) ∧ va_O "java/lang/String" a (gA s.heap.size) s s.heap ∧ va_OF "java/lang/String" "value" "[B" (.ref t) a (gA s.heap.size) s s.heap ∧ va_OF "java/lang/String" "coder" "B" (.int 0) a (gA s.heap.size) s s.heap ∧ va_T .byte t 9 (gTI ([80, 97, 120, 72, 101, 97, 100, 101, 114] : List Int32)) (gA s.heap.size) s s.heap := by
  refine st_str (by decide) (hs (Cond.exactly (Term.string "TarForms$ArchiveWriter" 143) "java/lang/String") (by decide +kernel)) (hs (Cond.eq (.field (Term.string "TarForms$ArchiveWriter" 143) "java/lang/String" "coder" "B") (.int 0)) (by decide +kernel)) (hs (Cond.arrayOf (.field (Term.string "TarForms$ArchiveWriter" 143) "java/lang/String" "value" "[B") .byte) (by decide +kernel)) (hs (Cond.eq (.length (.field (Term.string "TarForms$ArchiveWriter" 143) "java/lang/String" "value" "[B")) (.int (Int32.ofNat 9))) (by decide +kernel)) (fun j hj => ?_) (fun a h => Nat.not_le.mpr h)
  rcases (show j = 0 ∨ j = 1 ∨ j = 2 ∨ j = 3 ∨ j = 4 ∨ j = 5 ∨ j = 6 ∨ j = 7 ∨ j = 8 by omega) with rfl | rfl | rfl | rfl | rfl | rfl | rfl | rfl | rfl
  · exact hs (Cond.eq (.elem (.field (Term.string "TarForms$ArchiveWriter" 143) "java/lang/String" "value" "[B") (.int (Int32.ofNat 0))) (.int (([80, 97, 120, 72, 101, 97, 100, 101, 114] : List Int32).getD 0 0))) (by decide +kernel)
  · exact hs (Cond.eq (.elem (.field (Term.string "TarForms$ArchiveWriter" 143) "java/lang/String" "value" "[B") (.int (Int32.ofNat 1))) (.int (([80, 97, 120, 72, 101, 97, 100, 101, 114] : List Int32).getD 1 0))) (by decide +kernel)
  · exact hs (Cond.eq (.elem (.field (Term.string "TarForms$ArchiveWriter" 143) "java/lang/String" "value" "[B") (.int (Int32.ofNat 2))) (.int (([80, 97, 120, 72, 101, 97, 100, 101, 114] : List Int32).getD 2 0))) (by decide +kernel)
  · exact hs (Cond.eq (.elem (.field (Term.string "TarForms$ArchiveWriter" 143) "java/lang/String" "value" "[B") (.int (Int32.ofNat 3))) (.int (([80, 97, 120, 72, 101, 97, 100, 101, 114] : List Int32).getD 3 0))) (by decide +kernel)
  · exact hs (Cond.eq (.elem (.field (Term.string "TarForms$ArchiveWriter" 143) "java/lang/String" "value" "[B") (.int (Int32.ofNat 4))) (.int (([80, 97, 120, 72, 101, 97, 100, 101, 114] : List Int32).getD 4 0))) (by decide +kernel)
  · exact hs (Cond.eq (.elem (.field (Term.string "TarForms$ArchiveWriter" 143) "java/lang/String" "value" "[B") (.int (Int32.ofNat 5))) (.int (([80, 97, 120, 72, 101, 97, 100, 101, 114] : List Int32).getD 5 0))) (by decide +kernel)
  · exact hs (Cond.eq (.elem (.field (Term.string "TarForms$ArchiveWriter" 143) "java/lang/String" "value" "[B") (.int (Int32.ofNat 6))) (.int (([80, 97, 120, 72, 101, 97, 100, 101, 114] : List Int32).getD 6 0))) (by decide +kernel)
  · exact hs (Cond.eq (.elem (.field (Term.string "TarForms$ArchiveWriter" 143) "java/lang/String" "value" "[B") (.int (Int32.ofNat 7))) (.int (([80, 97, 120, 72, 101, 97, 100, 101, 114] : List Int32).getD 7 0))) (by decide +kernel)
  · exact hs (Cond.eq (.elem (.field (Term.string "TarForms$ArchiveWriter" 143) "java/lang/String" "value" "[B") (.int (Int32.ofNat 8))) (.int (([80, 97, 120, 72, 101, 97, 100, 101, 114] : List Int32).getD 8 0))) (by decide +kernel)
set_option maxRecDepth 100000 in
theorem st_s2 {b : Nat} {s : State} (hs : ∀ c ∈ flatC (Jvm.Cond.and given_1 narrow_1), c.before #[Value.ref b] s = true) : ∃ a t : Nat, (Term.string "TarForms$ArchiveWriter" 153).eval #[Value.ref b] s none [] s = some (.ref a) ∧ va_O "java/lang/String" a (gA s.heap.size) s s.heap ∧ va_OF "java/lang/String" "value" "[B" (.ref t) a (gA s.heap.size) s s.heap ∧ va_OF "java/lang/String" "coder" "B" (.int 0) a (gA s.heap.size) s s.heap ∧ va_T .byte t 13 (gTI ([46, 47, 46, 47, 64, 76, 111, 110, 103, 76, 105, 110, 107] : List Int32)) (gA s.heap.size) s s.heap := by
  refine st_str (by decide) (hs (Cond.exactly (Term.string "TarForms$ArchiveWriter" 153) "java/lang/String") (by decide +kernel)) (hs (Cond.eq (.field (Term.string "TarForms$ArchiveWriter" 153) "java/lang/String" "coder" "B") (.int 0)) (by decide +kernel)) (hs (Cond.arrayOf (.field (Term.string "TarForms$ArchiveWriter" 153) "java/lang/String" "value" "[B") .byte) (by decide +kernel)) (hs (Cond.eq (.length (.field (Term.string "TarForms$ArchiveWriter" 153) "java/lang/String" "value" "[B")) (.int (Int32.ofNat 13))) (by decide +kernel)) (fun j hj => ?_) (fun a h => Nat.not_le.mpr h)
  rcases (show j = 0 ∨ j = 1 ∨ j = 2 ∨ j = 3 ∨ j = 4 ∨ j = 5 ∨ j = 6 ∨ j = 7 ∨ j = 8 ∨ j = 9 ∨ j = 10 ∨ j = 11 ∨ j = 12 by omega) with rfl | rfl | rfl | rfl | rfl | rfl | rfl | rfl | rfl | rfl | rfl | rfl | rfl
  · exact hs (Cond.eq (.elem (.field (Term.string "TarForms$ArchiveWriter" 153) "java/lang/String" "value" "[B") (.int (Int32.ofNat 0))) (.int (([46, 47, 46, 47, 64, 76, 111, 110, 103, 76, 105, 110, 107] : List Int32).getD 0 0))) (by decide +kernel)
  · exact hs (Cond.eq (.elem (.field (Term.string "TarForms$ArchiveWriter" 153) "java/lang/String" "value" "[B") (.int (Int32.ofNat 1))) (.int (([46, 47, 46, 47, 64, 76, 111, 110, 103, 76, 105, 110, 107] : List Int32).getD 1 0))) (by decide +kernel)
  · exact hs (Cond.eq (.elem (.field (Term.string "TarForms$ArchiveWriter" 153) "java/lang/String" "value" "[B") (.int (Int32.ofNat 2))) (.int (([46, 47, 46, 47, 64, 76, 111, 110, 103, 76, 105, 110, 107] : List Int32).getD 2 0))) (by decide +kernel)
  · exact hs (Cond.eq (.elem (.field (Term.string "TarForms$ArchiveWriter" 153) "java/lang/String" "value" "[B") (.int (Int32.ofNat 3))) (.int (([46, 47, 46, 47, 64, 76, 111, 110, 103, 76, 105, 110, 107] : List Int32).getD 3 0))) (by decide +kernel)
  · exact hs (Cond.eq (.elem (.field (Term.string "TarForms$ArchiveWriter" 153) "java/lang/String" "value" "[B") (.int (Int32.ofNat 4))) (.int (([46, 47, 46, 47, 64, 76, 111, 110, 103, 76, 105, 110, 107] : List Int32).getD 4 0))) (by decide +kernel)
  · exact hs (Cond.eq (.elem (.field (Term.string "TarForms$ArchiveWriter" 153) "java/lang/String" "value" "[B") (.int (Int32.ofNat 5))) (.int (([46, 47, 46, 47, 64, 76, 111, 110, 103, 76, 105, 110, 107] : List Int32).getD 5 0))) (by decide +kernel)
  · exact hs (Cond.eq (.elem (.field (Term.string "TarForms$ArchiveWriter" 153) "java/lang/String" "value" "[B") (.int (Int32.ofNat 6))) (.int (([46, 47, 46, 47, 64, 76, 111, 110, 103, 76, 105, 110, 107] : List Int32).getD 6 0))) (by decide +kernel)
  · exact hs (Cond.eq (.elem (.field (Term.string "TarForms$ArchiveWriter" 153) "java/lang/String" "value" "[B") (.int (Int32.ofNat 7))) (.int (([46, 47, 46, 47, 64, 76, 111, 110, 103, 76, 105, 110, 107] : List Int32).getD 7 0))) (by decide +kernel)
  · exact hs (Cond.eq (.elem (.field (Term.string "TarForms$ArchiveWriter" 153) "java/lang/String" "value" "[B") (.int (Int32.ofNat 8))) (.int (([46, 47, 46, 47, 64, 76, 111, 110, 103, 76, 105, 110, 107] : List Int32).getD 8 0))) (by decide +kernel)
  · exact hs (Cond.eq (.elem (.field (Term.string "TarForms$ArchiveWriter" 153) "java/lang/String" "value" "[B") (.int (Int32.ofNat 9))) (.int (([46, 47, 46, 47, 64, 76, 111, 110, 103, 76, 105, 110, 107] : List Int32).getD 9 0))) (by decide +kernel)
  · exact hs (Cond.eq (.elem (.field (Term.string "TarForms$ArchiveWriter" 153) "java/lang/String" "value" "[B") (.int (Int32.ofNat 10))) (.int (([46, 47, 46, 47, 64, 76, 111, 110, 103, 76, 105, 110, 107] : List Int32).getD 10 0))) (by decide +kernel)
  · exact hs (Cond.eq (.elem (.field (Term.string "TarForms$ArchiveWriter" 153) "java/lang/String" "value" "[B") (.int (Int32.ofNat 11))) (.int (([46, 47, 46, 47, 64, 76, 111, 110, 103, 76, 105, 110, 107] : List Int32).getD 11 0))) (by decide +kernel)
  · exact hs (Cond.eq (.elem (.field (Term.string "TarForms$ArchiveWriter" 153) "java/lang/String" "value" "[B") (.int (Int32.ofNat 12))) (.int (([46, 47, 46, 47, 64, 76, 111, 110, 103, 76, 105, 110, 107] : List Int32).getD 12 0))) (by decide +kernel)
set_option maxRecDepth 100000 in
theorem st_s3 {b : Nat} {s : State} (hs : ∀ c ∈ flatC (Jvm.Cond.and given_1 narrow_1), c.before #[Value.ref b] s = true) : ∃ a t : Nat, (Term.string "TarForms$ArchiveWriter" 168).eval #[Value.ref b] s none [] s = some (.ref a) ∧ va_O "java/lang/String" a (gA s.heap.size) s s.heap ∧ va_OF "java/lang/String" "value" "[B" (.ref t) a (gA s.heap.size) s s.heap ∧ va_OF "java/lang/String" "coder" "B" (.int 0) a (gA s.heap.size) s s.heap ∧ va_T .byte t 4 (gTI ([112, 97, 116, 104] : List Int32)) (gA s.heap.size) s s.heap := by
  refine st_str (by decide) (hs (Cond.exactly (Term.string "TarForms$ArchiveWriter" 168) "java/lang/String") (by decide +kernel)) (hs (Cond.eq (.field (Term.string "TarForms$ArchiveWriter" 168) "java/lang/String" "coder" "B") (.int 0)) (by decide +kernel)) (hs (Cond.arrayOf (.field (Term.string "TarForms$ArchiveWriter" 168) "java/lang/String" "value" "[B") .byte) (by decide +kernel)) (hs (Cond.eq (.length (.field (Term.string "TarForms$ArchiveWriter" 168) "java/lang/String" "value" "[B")) (.int (Int32.ofNat 4))) (by decide +kernel)) (fun j hj => ?_) (fun a h => Nat.not_le.mpr h)
  rcases (show j = 0 ∨ j = 1 ∨ j = 2 ∨ j = 3 by omega) with rfl | rfl | rfl | rfl
  · exact hs (Cond.eq (.elem (.field (Term.string "TarForms$ArchiveWriter" 168) "java/lang/String" "value" "[B") (.int (Int32.ofNat 0))) (.int (([112, 97, 116, 104] : List Int32).getD 0 0))) (by decide +kernel)
  · exact hs (Cond.eq (.elem (.field (Term.string "TarForms$ArchiveWriter" 168) "java/lang/String" "value" "[B") (.int (Int32.ofNat 1))) (.int (([112, 97, 116, 104] : List Int32).getD 1 0))) (by decide +kernel)
  · exact hs (Cond.eq (.elem (.field (Term.string "TarForms$ArchiveWriter" 168) "java/lang/String" "value" "[B") (.int (Int32.ofNat 2))) (.int (([112, 97, 116, 104] : List Int32).getD 2 0))) (by decide +kernel)
  · exact hs (Cond.eq (.elem (.field (Term.string "TarForms$ArchiveWriter" 168) "java/lang/String" "value" "[B") (.int (Int32.ofNat 3))) (.int (([112, 97, 116, 104] : List Int32).getD 3 0))) (by decide +kernel)
set_option maxRecDepth 100000 in
theorem st_s4 {b : Nat} {s : State} (hs : ∀ c ∈ flatC (Jvm.Cond.and given_1 narrow_1), c.before #[Value.ref b] s = true) : ∃ a t : Nat, (Term.string "TarForms$ArchiveWriter" 174).eval #[Value.ref b] s none [] s = some (.ref a) ∧ va_O "java/lang/String" a (gA s.heap.size) s s.heap ∧ va_OF "java/lang/String" "value" "[B" (.ref t) a (gA s.heap.size) s s.heap ∧ va_OF "java/lang/String" "coder" "B" (.int 0) a (gA s.heap.size) s s.heap ∧ va_T .byte t 8 (gTI ([108, 105, 110, 107, 112, 97, 116, 104] : List Int32)) (gA s.heap.size) s s.heap := by
  refine st_str (by decide) (hs (Cond.exactly (Term.string "TarForms$ArchiveWriter" 174) "java/lang/String") (by decide +kernel)) (hs (Cond.eq (.field (Term.string "TarForms$ArchiveWriter" 174) "java/lang/String" "coder" "B") (.int 0)) (by decide +kernel)) (hs (Cond.arrayOf (.field (Term.string "TarForms$ArchiveWriter" 174) "java/lang/String" "value" "[B") .byte) (by decide +kernel)) (hs (Cond.eq (.length (.field (Term.string "TarForms$ArchiveWriter" 174) "java/lang/String" "value" "[B")) (.int (Int32.ofNat 8))) (by decide +kernel)) (fun j hj => ?_) (fun a h => Nat.not_le.mpr h)
  rcases (show j = 0 ∨ j = 1 ∨ j = 2 ∨ j = 3 ∨ j = 4 ∨ j = 5 ∨ j = 6 ∨ j = 7 by omega) with rfl | rfl | rfl | rfl | rfl | rfl | rfl | rfl
  · exact hs (Cond.eq (.elem (.field (Term.string "TarForms$ArchiveWriter" 174) "java/lang/String" "value" "[B") (.int (Int32.ofNat 0))) (.int (([108, 105, 110, 107, 112, 97, 116, 104] : List Int32).getD 0 0))) (by decide +kernel)
  · exact hs (Cond.eq (.elem (.field (Term.string "TarForms$ArchiveWriter" 174) "java/lang/String" "value" "[B") (.int (Int32.ofNat 1))) (.int (([108, 105, 110, 107, 112, 97, 116, 104] : List Int32).getD 1 0))) (by decide +kernel)
  · exact hs (Cond.eq (.elem (.field (Term.string "TarForms$ArchiveWriter" 174) "java/lang/String" "value" "[B") (.int (Int32.ofNat 2))) (.int (([108, 105, 110, 107, 112, 97, 116, 104] : List Int32).getD 2 0))) (by decide +kernel)
  · exact hs (Cond.eq (.elem (.field (Term.string "TarForms$ArchiveWriter" 174) "java/lang/String" "value" "[B") (.int (Int32.ofNat 3))) (.int (([108, 105, 110, 107, 112, 97, 116, 104] : List Int32).getD 3 0))) (by decide +kernel)
  · exact hs (Cond.eq (.elem (.field (Term.string "TarForms$ArchiveWriter" 174) "java/lang/String" "value" "[B") (.int (Int32.ofNat 4))) (.int (([108, 105, 110, 107, 112, 97, 116, 104] : List Int32).getD 4 0))) (by decide +kernel)
  · exact hs (Cond.eq (.elem (.field (Term.string "TarForms$ArchiveWriter" 174) "java/lang/String" "value" "[B") (.int (Int32.ofNat 5))) (.int (([108, 105, 110, 107, 112, 97, 116, 104] : List Int32).getD 5 0))) (by decide +kernel)
  · exact hs (Cond.eq (.elem (.field (Term.string "TarForms$ArchiveWriter" 174) "java/lang/String" "value" "[B") (.int (Int32.ofNat 6))) (.int (([108, 105, 110, 107, 112, 97, 116, 104] : List Int32).getD 6 0))) (by decide +kernel)
  · exact hs (Cond.eq (.elem (.field (Term.string "TarForms$ArchiveWriter" 174) "java/lang/String" "value" "[B") (.int (Int32.ofNat 7))) (.int (([108, 105, 110, 107, 112, 97, 116, 104] : List Int32).getD 7 0))) (by decide +kernel)
set_option maxRecDepth 100000 in
theorem st_s5 {b : Nat} {s : State} (hs : ∀ c ∈ flatC (Jvm.Cond.and given_1 narrow_1), c.before #[Value.ref b] s = true) : ∃ a t : Nat, (Term.string "TarForms$ArchiveWriter" 176).eval #[Value.ref b] s none [] s = some (.ref a) ∧ va_O "java/lang/String" a (gA s.heap.size) s s.heap ∧ va_OF "java/lang/String" "value" "[B" (.ref t) a (gA s.heap.size) s s.heap ∧ va_OF "java/lang/String" "coder" "B" (.int 0) a (gA s.heap.size) s s.heap ∧ va_T .byte t 3 (gTI ([117, 105, 100] : List Int32)) (gA s.heap.size) s s.heap := by
  refine st_str (by decide) (hs (Cond.exactly (Term.string "TarForms$ArchiveWriter" 176) "java/lang/String") (by decide +kernel)) (hs (Cond.eq (.field (Term.string "TarForms$ArchiveWriter" 176) "java/lang/String" "coder" "B") (.int 0)) (by decide +kernel)) (hs (Cond.arrayOf (.field (Term.string "TarForms$ArchiveWriter" 176) "java/lang/String" "value" "[B") .byte) (by decide +kernel)) (hs (Cond.eq (.length (.field (Term.string "TarForms$ArchiveWriter" 176) "java/lang/String" "value" "[B")) (.int (Int32.ofNat 3))) (by decide +kernel)) (fun j hj => ?_) (fun a h => Nat.not_le.mpr h)
  rcases (show j = 0 ∨ j = 1 ∨ j = 2 by omega) with rfl | rfl | rfl
  · exact hs (Cond.eq (.elem (.field (Term.string "TarForms$ArchiveWriter" 176) "java/lang/String" "value" "[B") (.int (Int32.ofNat 0))) (.int (([117, 105, 100] : List Int32).getD 0 0))) (by decide +kernel)
  · exact hs (Cond.eq (.elem (.field (Term.string "TarForms$ArchiveWriter" 176) "java/lang/String" "value" "[B") (.int (Int32.ofNat 1))) (.int (([117, 105, 100] : List Int32).getD 1 0))) (by decide +kernel)
  · exact hs (Cond.eq (.elem (.field (Term.string "TarForms$ArchiveWriter" 176) "java/lang/String" "value" "[B") (.int (Int32.ofNat 2))) (.int (([117, 105, 100] : List Int32).getD 2 0))) (by decide +kernel)
set_option maxRecDepth 100000 in
theorem st_s6 {b : Nat} {s : State} (hs : ∀ c ∈ flatC (Jvm.Cond.and given_1 narrow_1), c.before #[Value.ref b] s = true) : ∃ a t : Nat, (Term.string "TarForms$ArchiveWriter" 182).eval #[Value.ref b] s none [] s = some (.ref a) ∧ va_O "java/lang/String" a (gA s.heap.size) s s.heap ∧ va_OF "java/lang/String" "value" "[B" (.ref t) a (gA s.heap.size) s s.heap ∧ va_OF "java/lang/String" "coder" "B" (.int 0) a (gA s.heap.size) s s.heap ∧ va_T .byte t 3 (gTI ([103, 105, 100] : List Int32)) (gA s.heap.size) s s.heap := by
  refine st_str (by decide) (hs (Cond.exactly (Term.string "TarForms$ArchiveWriter" 182) "java/lang/String") (by decide +kernel)) (hs (Cond.eq (.field (Term.string "TarForms$ArchiveWriter" 182) "java/lang/String" "coder" "B") (.int 0)) (by decide +kernel)) (hs (Cond.arrayOf (.field (Term.string "TarForms$ArchiveWriter" 182) "java/lang/String" "value" "[B") .byte) (by decide +kernel)) (hs (Cond.eq (.length (.field (Term.string "TarForms$ArchiveWriter" 182) "java/lang/String" "value" "[B")) (.int (Int32.ofNat 3))) (by decide +kernel)) (fun j hj => ?_) (fun a h => Nat.not_le.mpr h)
  rcases (show j = 0 ∨ j = 1 ∨ j = 2 by omega) with rfl | rfl | rfl
  · exact hs (Cond.eq (.elem (.field (Term.string "TarForms$ArchiveWriter" 182) "java/lang/String" "value" "[B") (.int (Int32.ofNat 0))) (.int (([103, 105, 100] : List Int32).getD 0 0))) (by decide +kernel)
  · exact hs (Cond.eq (.elem (.field (Term.string "TarForms$ArchiveWriter" 182) "java/lang/String" "value" "[B") (.int (Int32.ofNat 1))) (.int (([103, 105, 100] : List Int32).getD 1 0))) (by decide +kernel)
  · exact hs (Cond.eq (.elem (.field (Term.string "TarForms$ArchiveWriter" 182) "java/lang/String" "value" "[B") (.int (Int32.ofNat 2))) (.int (([103, 105, 100] : List Int32).getD 2 0))) (by decide +kernel)
set_option maxRecDepth 100000 in
theorem st_s7 {b : Nat} {s : State} (hs : ∀ c ∈ flatC (Jvm.Cond.and given_1 narrow_1), c.before #[Value.ref b] s = true) : ∃ a t : Nat, (Term.string "TarForms$ArchiveWriter" 188).eval #[Value.ref b] s none [] s = some (.ref a) ∧ va_O "java/lang/String" a (gA s.heap.size) s s.heap ∧ va_OF "java/lang/String" "value" "[B" (.ref t) a (gA s.heap.size) s s.heap ∧ va_OF "java/lang/String" "coder" "B" (.int 0) a (gA s.heap.size) s s.heap ∧ va_T .byte t 5 (gTI ([109, 116, 105, 109, 101] : List Int32)) (gA s.heap.size) s s.heap := by
  refine st_str (by decide) (hs (Cond.exactly (Term.string "TarForms$ArchiveWriter" 188) "java/lang/String") (by decide +kernel)) (hs (Cond.eq (.field (Term.string "TarForms$ArchiveWriter" 188) "java/lang/String" "coder" "B") (.int 0)) (by decide +kernel)) (hs (Cond.arrayOf (.field (Term.string "TarForms$ArchiveWriter" 188) "java/lang/String" "value" "[B") .byte) (by decide +kernel)) (hs (Cond.eq (.length (.field (Term.string "TarForms$ArchiveWriter" 188) "java/lang/String" "value" "[B")) (.int (Int32.ofNat 5))) (by decide +kernel)) (fun j hj => ?_) (fun a h => Nat.not_le.mpr h)
  rcases (show j = 0 ∨ j = 1 ∨ j = 2 ∨ j = 3 ∨ j = 4 by omega) with rfl | rfl | rfl | rfl | rfl
  · exact hs (Cond.eq (.elem (.field (Term.string "TarForms$ArchiveWriter" 188) "java/lang/String" "value" "[B") (.int (Int32.ofNat 0))) (.int (([109, 116, 105, 109, 101] : List Int32).getD 0 0))) (by decide +kernel)
  · exact hs (Cond.eq (.elem (.field (Term.string "TarForms$ArchiveWriter" 188) "java/lang/String" "value" "[B") (.int (Int32.ofNat 1))) (.int (([109, 116, 105, 109, 101] : List Int32).getD 1 0))) (by decide +kernel)
  · exact hs (Cond.eq (.elem (.field (Term.string "TarForms$ArchiveWriter" 188) "java/lang/String" "value" "[B") (.int (Int32.ofNat 2))) (.int (([109, 116, 105, 109, 101] : List Int32).getD 2 0))) (by decide +kernel)
  · exact hs (Cond.eq (.elem (.field (Term.string "TarForms$ArchiveWriter" 188) "java/lang/String" "value" "[B") (.int (Int32.ofNat 3))) (.int (([109, 116, 105, 109, 101] : List Int32).getD 3 0))) (by decide +kernel)
  · exact hs (Cond.eq (.elem (.field (Term.string "TarForms$ArchiveWriter" 188) "java/lang/String" "value" "[B") (.int (Int32.ofNat 4))) (.int (([109, 116, 105, 109, 101] : List Int32).getD 4 0))) (by decide +kernel)
set_option maxRecDepth 100000 in
theorem st_s8 {b : Nat} {s : State} (hs : ∀ c ∈ flatC (Jvm.Cond.and given_1 narrow_1), c.before #[Value.ref b] s = true) : ∃ a t : Nat, (Term.string "TarForms$RowReader" 95).eval #[Value.ref b] s none [] s = some (.ref a) ∧ va_O "java/lang/String" a (gA s.heap.size) s s.heap ∧ va_OF "java/lang/String" "value" "[B" (.ref t) a (gA s.heap.size) s s.heap ∧ va_OF "java/lang/String" "coder" "B" (.int 0) a (gA s.heap.size) s s.heap ∧ va_T .byte t 4 (gTI ([115, 105, 122, 101] : List Int32)) (gA s.heap.size) s s.heap := by
  refine st_str (by decide) (hs (Cond.exactly (Term.string "TarForms$RowReader" 95) "java/lang/String") (by decide +kernel)) (hs (Cond.eq (.field (Term.string "TarForms$RowReader" 95) "java/lang/String" "coder" "B") (.int 0)) (by decide +kernel)) (hs (Cond.arrayOf (.field (Term.string "TarForms$RowReader" 95) "java/lang/String" "value" "[B") .byte) (by decide +kernel)) (hs (Cond.eq (.length (.field (Term.string "TarForms$RowReader" 95) "java/lang/String" "value" "[B")) (.int (Int32.ofNat 4))) (by decide +kernel)) (fun j hj => ?_) (fun a h => Nat.not_le.mpr h)
  rcases (show j = 0 ∨ j = 1 ∨ j = 2 ∨ j = 3 by omega) with rfl | rfl | rfl | rfl
  · exact hs (Cond.eq (.elem (.field (Term.string "TarForms$RowReader" 95) "java/lang/String" "value" "[B") (.int (Int32.ofNat 0))) (.int (([115, 105, 122, 101] : List Int32).getD 0 0))) (by decide +kernel)
  · exact hs (Cond.eq (.elem (.field (Term.string "TarForms$RowReader" 95) "java/lang/String" "value" "[B") (.int (Int32.ofNat 1))) (.int (([115, 105, 122, 101] : List Int32).getD 1 0))) (by decide +kernel)
  · exact hs (Cond.eq (.elem (.field (Term.string "TarForms$RowReader" 95) "java/lang/String" "value" "[B") (.int (Int32.ofNat 2))) (.int (([115, 105, 122, 101] : List Int32).getD 2 0))) (by decide +kernel)
  · exact hs (Cond.eq (.elem (.field (Term.string "TarForms$RowReader" 95) "java/lang/String" "value" "[B") (.int (Int32.ofNat 3))) (.int (([115, 105, 122, 101] : List Int32).getD 3 0))) (by decide +kernel)
/-- the arrays that were there ahead of the law, and the script -/
def g0A (v : Nat → Nat) (b n : Nat) (xs : Nat → Int32) : Nat → Option gAE := fun q =>
  if q = v 0 then some (.long, false, 5, gTJ ([0, 0, 0, -1099511627776, 0] : List Int64)) else
  if q = v 1 then some (.long, false, 5, gTJ ([4095, 36028797018963968, 36028797018963968, 1125899906842624, 999999999] : List Int64)) else
  if q = v 2 then some (.int, false, 8, gTI ([117, 115, 116, 97, 114, 32, 32, 0] : List Int32)) else
  if q = v 3 then some (.int, false, 8, gTI ([117, 115, 116, 97, 114, 0, 48, 48] : List Int32)) else
  if q = v 4 then some (.int, false, 5, gTI ([100, 108, 116, 124, 136] : List Int32)) else
  if q = v 5 then some (.int, false, 5, gTI ([8, 8, 8, 12, 12] : List Int32)) else
  if q = v 30 then some (.byte, false, 5, gTI ([117, 115, 116, 97, 114] : List Int32)) else
  if q = v 31 then some (.byte, false, 9, gTI ([80, 97, 120, 72, 101, 97, 100, 101, 114] : List Int32)) else
  if q = v 32 then some (.byte, false, 13, gTI ([46, 47, 46, 47, 64, 76, 111, 110, 103, 76, 105, 110, 107] : List Int32)) else
  if q = v 33 then some (.byte, false, 4, gTI ([112, 97, 116, 104] : List Int32)) else
  if q = v 34 then some (.byte, false, 8, gTI ([108, 105, 110, 107, 112, 97, 116, 104] : List Int32)) else
  if q = v 35 then some (.byte, false, 3, gTI ([117, 105, 100] : List Int32)) else
  if q = v 36 then some (.byte, false, 3, gTI ([103, 105, 100] : List Int32)) else
  if q = v 37 then some (.byte, false, 5, gTI ([109, 116, 105, 109, 101] : List Int32)) else
  if q = v 38 then some (.byte, false, 4, gTI ([115, 105, 122, 101] : List Int32)) else
  if q = b then some (.int, false, n, fun j => .int (xs j)) else none
def g0O (v : Nat → Nat) : Nat → Option gOE := fun q =>
  if q = v 10 then some (1000, [.ref (v 30), .int 0]) else
  if q = v 11 then some (1000, [.ref (v 31), .int 0]) else
  if q = v 12 then some (1000, [.ref (v 32), .int 0]) else
  if q = v 13 then some (1000, [.ref (v 33), .int 0]) else
  if q = v 14 then some (1000, [.ref (v 34), .int 0]) else
  if q = v 15 then some (1000, [.ref (v 35), .int 0]) else
  if q = v 16 then some (1000, [.ref (v 36), .int 0]) else
  if q = v 17 then some (1000, [.ref (v 37), .int 0]) else
  if q = v 18 then some (1000, [.ref (v 38), .int 0]) else
  none
/-- what the pure part is told of the start -/
def E0 (N : Nat) (v : Nat → Nat) (G : gH) (b : Nat) : Prop :=
  G.1 (v 0) = some (.long, false, 5, gTJ ([0, 0, 0, -1099511627776, 0] : List Int64)) ∧
  G.1 (v 1) = some (.long, false, 5, gTJ ([4095, 36028797018963968, 36028797018963968, 1125899906842624, 999999999] : List Int64)) ∧
  G.1 (v 2) = some (.int, false, 8, gTI ([117, 115, 116, 97, 114, 32, 32, 0] : List Int32)) ∧
  G.1 (v 3) = some (.int, false, 8, gTI ([117, 115, 116, 97, 114, 0, 48, 48] : List Int32)) ∧
  G.1 (v 4) = some (.int, false, 5, gTI ([100, 108, 116, 124, 136] : List Int32)) ∧
  G.1 (v 5) = some (.int, false, 5, gTI ([8, 8, 8, 12, 12] : List Int32)) ∧
  G.1 (v 30) = some (.byte, false, 5, gTI ([117, 115, 116, 97, 114] : List Int32)) ∧
  G.1 (v 31) = some (.byte, false, 9, gTI ([80, 97, 120, 72, 101, 97, 100, 101, 114] : List Int32)) ∧
  G.1 (v 32) = some (.byte, false, 13, gTI ([46, 47, 46, 47, 64, 76, 111, 110, 103, 76, 105, 110, 107] : List Int32)) ∧
  G.1 (v 33) = some (.byte, false, 4, gTI ([112, 97, 116, 104] : List Int32)) ∧
  G.1 (v 34) = some (.byte, false, 8, gTI ([108, 105, 110, 107, 112, 97, 116, 104] : List Int32)) ∧
  G.1 (v 35) = some (.byte, false, 3, gTI ([117, 105, 100] : List Int32)) ∧
  G.1 (v 36) = some (.byte, false, 3, gTI ([103, 105, 100] : List Int32)) ∧
  G.1 (v 37) = some (.byte, false, 5, gTI ([109, 116, 105, 109, 101] : List Int32)) ∧
  G.1 (v 38) = some (.byte, false, 4, gTI ([115, 105, 122, 101] : List Int32)) ∧
  G.2.1 (v 10) = some (1000, [.ref (v 30), .int 0]) ∧
  G.2.1 (v 11) = some (1000, [.ref (v 31), .int 0]) ∧
  G.2.1 (v 12) = some (1000, [.ref (v 32), .int 0]) ∧
  G.2.1 (v 13) = some (1000, [.ref (v 33), .int 0]) ∧
  G.2.1 (v 14) = some (1000, [.ref (v 34), .int 0]) ∧
  G.2.1 (v 15) = some (1000, [.ref (v 35), .int 0]) ∧
  G.2.1 (v 16) = some (1000, [.ref (v 36), .int 0]) ∧
  G.2.1 (v 17) = some (1000, [.ref (v 37), .int 0]) ∧
  G.2.1 (v 18) = some (1000, [.ref (v 38), .int 0]) ∧
  (∃ n f, G.1 b = some (.int, false, n, f) ∧ n ≤ N ∧ ∀ j, j < n → ∃ x, f j = .int x) ∧
  (∀ q e, G.1 q = some e → q < G.2.2) ∧
  (∀ q e, G.2.1 q = some e → q < G.2.2)
set_option maxHeartbeats 4000000 in
set_option maxRecDepth 100000 in
theorem st_start {p : Program} {s : State} {m : MethodId} {meth : Method} {c : Code} {b L : Nat} {xs : Nat → Int32} (hL : L ≤ 2560) (C0 : lw_At p s m meth c b L xs) : ∃ (D : va_G) (v : Nat → Nat) (G : gH), E0 2560 v G b ∧ gRep s.heap.size D v G s s.heap := by
  obtain ⟨hx, hb, hr, hml, hown, hts, hX, hbl, hlocks, hgv⟩ := id C0
  have hs := flat_of_before _ hgv
  obtain ⟨c0, i0, hk0⟩ := u_known (C := RX0) (T := TX0) (N := 8) (n := 8) hts (fun w h => gW_in (inX0 w h)) (hts (.instantiable RX0 8) (List.mem_of_getElem? (i := 152) (by decide +kernel)))
  obtain ⟨c1, i1, hk1⟩ := u_known (C := RX1) (T := TX1) (N := 9) (n := 9) hts (fun w h => gW_in (inX1 w h)) (hts (.instantiable RX1 9) (List.mem_of_getElem? (i := 144) (by decide +kernel)))
  obtain ⟨c2, i2, hk2⟩ := u_known (C := RX2) (T := TX2) (N := 3) (n := 3) hts (fun w h => gW_in (inX2 w h)) (hts (.instantiable RX2 3) (List.mem_of_getElem? (i := 126) (by decide +kernel)))
  obtain ⟨c3, i3, hk3⟩ := u_known (C := RX3) (T := TX3) (N := 6) (n := 6) hts (fun w h => gW_in (inX3 w h)) (hts (.instantiable RX3 6) (List.mem_of_getElem? (i := 323) (by decide +kernel)))
  obtain ⟨c4, i4, hk4⟩ := u_known (C := RX4) (T := TX4) (N := 2) (n := 2) hts (fun w h => gW_in (inX4 w h)) (hts (.instantiable RX4 2) (List.mem_of_getElem? (i := 199) (by decide +kernel)))
  obtain ⟨c5, i5, hk5⟩ := u_known (C := RX5) (T := TX5) (N := 3) (n := 3) hts (fun w h => gW_in (inX5 w h)) (hts (.instantiable RX5 3) (List.mem_of_getElem? (i := 268) (by decide +kernel)))
  obtain ⟨c6, i6, hk6⟩ := u_known (C := RX6) (T := TX6) (N := 7) (n := 7) hts (fun w h => gW_in (inX6 w h)) (hts (.instantiable RX6 7) (List.mem_of_getElem? (i := 214) (by decide +kernel)))
  obtain ⟨c7, i7, hk7⟩ := u_known (C := RX7) (T := TX7) (N := 2) (n := 2) hts (fun w h => gW_in (inX7 w h)) (hts (.instantiable RX7 2) (List.mem_of_getElem? (i := 106) (by decide +kernel)))
  obtain ⟨c8, i8, hk8⟩ := u_known (C := RX8) (T := TX8) (N := 5) (n := 5) hts (fun w h => gW_in (inX8 w h)) (hts (.instantiable RX8 5) (List.mem_of_getElem? (i := 247) (by decide +kernel)))
  obtain ⟨c9, i9, hk9⟩ := u_known (C := RX10) (T := TX10) (N := 6) (n := 6) hts (fun w h => gW_in (inX10 w h)) (hts (.instantiable RX10 6) (List.mem_of_getElem? (i := 98) (by decide +kernel)))
  obtain ⟨c10, i10, hk10⟩ := u_known (C := RX11) (T := TX11) (N := 33) (n := 33) hts (fun w h => gW_in (inX11 w h)) (hts (.instantiable RX11 33) (List.mem_of_getElem? (i := 946) (by decide +kernel)))
  obtain ⟨D, hK⟩ : ∃ D : va_G, va_K D vwCl [] s := by
    refine ⟨(fun k => [c0, c1, c2, c3, c4, c5, c6, c7, c8, c9, c10].getD k c0, fun k => [i0, i1, i2, i3, i4, i5, i6, i7, i8, i9, i10].getD k i0), fun k q hq => ?_, fun k q h => by simp at h⟩
    match k, hq with
    | 0, hq => cases hq; exact hk0
    | 1, hq => cases hq; exact hk1
    | 2, hq => cases hq; exact hk2
    | 3, hq => cases hq; exact hk3
    | 4, hq => cases hq; exact hk4
    | 5, hq => cases hq; exact hk5
    | 6, hq => cases hq; exact hk6
    | 7, hq => cases hq; exact hk7
    | 8, hq => cases hq; exact hk8
    | 9, hq => cases hq; exact hk9
    | 10, hq => cases hq; exact hk10
    | k + 11, hq => simp [vwCl] at hq
  obtain ⟨t0, e0, h0⟩ := st_t0 hs
  obtain ⟨t1, e1, h1⟩ := st_t1 hs
  obtain ⟨t2, e2, h2⟩ := st_t2 hs
  obtain ⟨t3, e3, h3⟩ := st_t3 hs
  obtain ⟨t4, e4, h4⟩ := st_t4 hs
  obtain ⟨t5, e5, h5⟩ := st_t5 hs
  obtain ⟨a0, w0, es0, ho0, hv0, hc0, hb0⟩ := st_s0 hs
  obtain ⟨a1, w1, es1, ho1, hv1, hc1, hb1⟩ := st_s1 hs
  obtain ⟨a2, w2, es2, ho2, hv2, hc2, hb2⟩ := st_s2 hs
  obtain ⟨a3, w3, es3, ho3, hv3, hc3, hb3⟩ := st_s3 hs
  obtain ⟨a4, w4, es4, ho4, hv4, hc4, hb4⟩ := st_s4 hs
  obtain ⟨a5, w5, es5, ho5, hv5, hc5, hb5⟩ := st_s5 hs
  obtain ⟨a6, w6, es6, ho6, hv6, hc6, hb6⟩ := st_s6 hs
  obtain ⟨a7, w7, es7, ho7, hv7, hc7, hb7⟩ := st_s7 hs
  obtain ⟨a8, w8, es8, ho8, hv8, hc8, hb8⟩ := st_s8 hs
  have hq : va_Zq "jdk/internal/util/Preconditions" "SIOOBE_FORMATTER" "Ljava/util/function/BiFunction;" (gA s.heap.size) s s.heap := va_Zqof (hts _ (List.mem_of_getElem? (i := 572) (by decide +kernel))) (hts _ (List.mem_of_getElem? (i := 94) (by decide +kernel))) (hs _ (by decide +kernel)) (fun a h => Nat.not_le.mpr h)
  obtain ⟨z8, z9, hz⟩ : ∃ z8 z9 : Nat, va_Z "jdk/internal/util/Preconditions" "SIOOBE_FORMATTER" "Ljava/util/function/BiFunction;" (va_rf (if z8 = 0 then none else some z9)) (gA s.heap.size) s s.heap := by
    rcases hq with h | ⟨t, h⟩
    · exact ⟨0, 0, h⟩
    · exact ⟨1, t, h⟩
  obtain ⟨v, y0, y1, y2, y3, y4, y5, y8, y9, y10, y11, y12, y13, y14, y15, y16, y17, y18, y30, y31, y32, y33, y34, y35, y36, y37, y38⟩ : ∃ v : Nat → Nat, v 0 = t0 ∧ v 1 = t1 ∧ v 2 = t2 ∧ v 3 = t3 ∧ v 4 = t4 ∧ v 5 = t5 ∧ v 8 = z8 ∧ v 9 = z9 ∧ v 10 = a0 ∧ v 11 = a1 ∧ v 12 = a2 ∧ v 13 = a3 ∧ v 14 = a4 ∧ v 15 = a5 ∧ v 16 = a6 ∧ v 17 = a7 ∧ v 18 = a8 ∧ v 30 = w0 ∧ v 31 = w1 ∧ v 32 = w2 ∧ v 33 = w3 ∧ v 34 = w4 ∧ v 35 = w5 ∧ v 36 = w6 ∧ v 37 = w7 ∧ v 38 = w8 := ⟨fun k => [t0, t1, t2, t3, t4, t5, 0, 0, z8, z9, a0, a1, a2, a3, a4, a5, a6, a7, a8, 0, 0, 0, 0, 0, 0, 0, 0, 0, 0, 0, w0, w1, w2, w3, w4, w5, w6, w7, w8].getD k 0, rfl, rfl, rfl, rfl, rfl, rfl, rfl, rfl, rfl, rfl, rfl, rfl, rfl, rfl, rfl, rfl, rfl, rfl, rfl, rfl, rfl, rfl, rfl, rfl, rfl, rfl⟩
  subst y0
  subst y1
  subst y2
  subst y3
  subst y4
  subst y5
  subst y8
  subst y9
  subst y10
  subst y11
  subst y12
  subst y13
  subst y14
  subst y15
  subst y16
  subst y17
  subst y18
  subst y30
  subst y31
  subst y32
  subst y33
  subst y34
  subst y35
  subst y36
  subst y37
  subst y38
  refine ⟨D, v, (g0A v b L xs, g0O v, s.heap.size), ?_, ?_⟩
  have n1_0 : v 1 ≠ v 0 := st_ne (st_T h1 (fun C h => by cases h)) (st_T h0 (fun C h => by cases h)) (by decide) (by decide) (Or.inr (Or.inr ⟨0, by decide, by decide⟩))
  have n2_0 : v 2 ≠ v 0 := st_ne (st_T h2 (fun C h => by cases h)) (st_T h0 (fun C h => by cases h)) (by decide) (by decide) (Or.inl (by decide))
  have n2_1 : v 2 ≠ v 1 := st_ne (st_T h2 (fun C h => by cases h)) (st_T h1 (fun C h => by cases h)) (by decide) (by decide) (Or.inl (by decide))
  have n3_0 : v 3 ≠ v 0 := st_ne (st_T h3 (fun C h => by cases h)) (st_T h0 (fun C h => by cases h)) (by decide) (by decide) (Or.inl (by decide))
  have n3_1 : v 3 ≠ v 1 := st_ne (st_T h3 (fun C h => by cases h)) (st_T h1 (fun C h => by cases h)) (by decide) (by decide) (Or.inl (by decide))
  have n3_2 : v 3 ≠ v 2 := st_ne (st_T h3 (fun C h => by cases h)) (st_T h2 (fun C h => by cases h)) (by decide) (by decide) (Or.inr (Or.inr ⟨5, by decide, by decide⟩))
  have n4_0 : v 4 ≠ v 0 := st_ne (st_T h4 (fun C h => by cases h)) (st_T h0 (fun C h => by cases h)) (by decide) (by decide) (Or.inl (by decide))
  have n4_1 : v 4 ≠ v 1 := st_ne (st_T h4 (fun C h => by cases h)) (st_T h1 (fun C h => by cases h)) (by decide) (by decide) (Or.inl (by decide))
  have n4_2 : v 4 ≠ v 2 := st_ne (st_T h4 (fun C h => by cases h)) (st_T h2 (fun C h => by cases h)) (by decide) (by decide) (Or.inr (Or.inl (by decide)))
  have n4_3 : v 4 ≠ v 3 := st_ne (st_T h4 (fun C h => by cases h)) (st_T h3 (fun C h => by cases h)) (by decide) (by decide) (Or.inr (Or.inl (by decide)))
  have n5_0 : v 5 ≠ v 0 := st_ne (st_T h5 (fun C h => by cases h)) (st_T h0 (fun C h => by cases h)) (by decide) (by decide) (Or.inl (by decide))
  have n5_1 : v 5 ≠ v 1 := st_ne (st_T h5 (fun C h => by cases h)) (st_T h1 (fun C h => by cases h)) (by decide) (by decide) (Or.inl (by decide))
  have n5_2 : v 5 ≠ v 2 := st_ne (st_T h5 (fun C h => by cases h)) (st_T h2 (fun C h => by cases h)) (by decide) (by decide) (Or.inr (Or.inl (by decide)))
  have n5_3 : v 5 ≠ v 3 := st_ne (st_T h5 (fun C h => by cases h)) (st_T h3 (fun C h => by cases h)) (by decide) (by decide) (Or.inr (Or.inl (by decide)))
  have n5_4 : v 5 ≠ v 4 := st_ne (st_T h5 (fun C h => by cases h)) (st_T h4 (fun C h => by cases h)) (by decide) (by decide) (Or.inr (Or.inr ⟨0, by decide, by decide⟩))
  have n6_0 : v 30 ≠ v 0 := st_ne (st_T hb0 (fun C h => by cases h)) (st_T h0 (fun C h => by cases h)) (by decide) (by decide) (Or.inl (by decide))
  have n6_1 : v 30 ≠ v 1 := st_ne (st_T hb0 (fun C h => by cases h)) (st_T h1 (fun C h => by cases h)) (by decide) (by decide) (Or.inl (by decide))
  have n6_2 : v 30 ≠ v 2 := st_ne (st_T hb0 (fun C h => by cases h)) (st_T h2 (fun C h => by cases h)) (by decide) (by decide) (Or.inl (by decide))
  have n6_3 : v 30 ≠ v 3 := st_ne (st_T hb0 (fun C h => by cases h)) (st_T h3 (fun C h => by cases h)) (by decide) (by decide) (Or.inl (by decide))
  have n6_4 : v 30 ≠ v 4 := st_ne (st_T hb0 (fun C h => by cases h)) (st_T h4 (fun C h => by cases h)) (by decide) (by decide) (Or.inl (by decide))
  have n6_5 : v 30 ≠ v 5 := st_ne (st_T hb0 (fun C h => by cases h)) (st_T h5 (fun C h => by cases h)) (by decide) (by decide) (Or.inl (by decide))
  have n7_0 : v 31 ≠ v 0 := st_ne (st_T hb1 (fun C h => by cases h)) (st_T h0 (fun C h => by cases h)) (by decide) (by decide) (Or.inl (by decide))
  have n7_1 : v 31 ≠ v 1 := st_ne (st_T hb1 (fun C h => by cases h)) (st_T h1 (fun C h => by cases h)) (by decide) (by decide) (Or.inl (by decide))
  have n7_2 : v 31 ≠ v 2 := st_ne (st_T hb1 (fun C h => by cases h)) (st_T h2 (fun C h => by cases h)) (by decide) (by decide) (Or.inl (by decide))
  have n7_3 : v 31 ≠ v 3 := st_ne (st_T hb1 (fun C h => by cases h)) (st_T h3 (fun C h => by cases h)) (by decide) (by decide) (Or.inl (by decide))
  have n7_4 : v 31 ≠ v 4 := st_ne (st_T hb1 (fun C h => by cases h)) (st_T h4 (fun C h => by cases h)) (by decide) (by decide) (Or.inl (by decide))
  have n7_5 : v 31 ≠ v 5 := st_ne (st_T hb1 (fun C h => by cases h)) (st_T h5 (fun C h => by cases h)) (by decide) (by decide) (Or.inl (by decide))
  have n7_6 : v 31 ≠ v 30 := st_ne (st_T hb1 (fun C h => by cases h)) (st_T hb0 (fun C h => by cases h)) (by decide) (by decide) (Or.inr (Or.inl (by decide)))
  have n8_0 : v 32 ≠ v 0 := st_ne (st_T hb2 (fun C h => by cases h)) (st_T h0 (fun C h => by cases h)) (by decide) (by decide) (Or.inl (by decide))
  have n8_1 : v 32 ≠ v 1 := st_ne (st_T hb2 (fun C h => by cases h)) (st_T h1 (fun C h => by cases h)) (by decide) (by decide) (Or.inl (by decide))
  have n8_2 : v 32 ≠ v 2 := st_ne (st_T hb2 (fun C h => by cases h)) (st_T h2 (fun C h => by cases h)) (by decide) (by decide) (Or.inl (by decide))
  have n8_3 : v 32 ≠ v 3 := st_ne (st_T hb2 (fun C h => by cases h)) (st_T h3 (fun C h => by cases h)) (by decide) (by decide) (Or.inl (by decide))
  have n8_4 : v 32 ≠ v 4 := st_ne (st_T hb2 (fun C h => by cases h)) (st_T h4 (fun C h => by cases h)) (by decide) (by decide) (Or.inl (by decide))
  have n8_5 : v 32 ≠ v 5 := st_ne (st_T hb2 (fun C h => by cases h)) (st_T h5 (fun C h => by cases h)) (by decide) (by decide) (Or.inl (by decide))
  have n8_6 : v 32 ≠ v 30 := st_ne (st_T hb2 (fun C h => by cases h)) (st_T hb0 (fun C h => by cases h)) (by decide) (by decide) (Or.inr (Or.inl (by decide)))
  have n8_7 : v 32 ≠ v 31 := st_ne (st_T hb2 (fun C h => by cases h)) (st_T hb1 (fun C h => by cases h)) (by decide) (by decide) (Or.inr (Or.inl (by decide)))
  have n9_0 : v 33 ≠ v 0 := st_ne (st_T hb3 (fun C h => by cases h)) (st_T h0 (fun C h => by cases h)) (by decide) (by decide) (Or.inl (by decide))
  have n9_1 : v 33 ≠ v 1 := st_ne (st_T hb3 (fun C h => by cases h)) (st_T h1 (fun C h => by cases h)) (by decide) (by decide) (Or.inl (by decide))
  have n9_2 : v 33 ≠ v 2 := st_ne (st_T hb3 (fun C h => by cases h)) (st_T h2 (fun C h => by cases h)) (by decide) (by decide) (Or.inl (by decide))
  have n9_3 : v 33 ≠ v 3 := st_ne (st_T hb3 (fun C h => by cases h)) (st_T h3 (fun C h => by cases h)) (by decide) (by decide) (Or.inl (by decide))
  have n9_4 : v 33 ≠ v 4 := st_ne (st_T hb3 (fun C h => by cases h)) (st_T h4 (fun C h => by cases h)) (by decide) (by decide) (Or.inl (by decide))
  have n9_5 : v 33 ≠ v 5 := st_ne (st_T hb3 (fun C h => by cases h)) (st_T h5 (fun C h => by cases h)) (by decide) (by decide) (Or.inl (by decide))
  have n9_6 : v 33 ≠ v 30 := st_ne (st_T hb3 (fun C h => by cases h)) (st_T hb0 (fun C h => by cases h)) (by decide) (by decide) (Or.inr (Or.inl (by decide)))
  have n9_7 : v 33 ≠ v 31 := st_ne (st_T hb3 (fun C h => by cases h)) (st_T hb1 (fun C h => by cases h)) (by decide) (by decide) (Or.inr (Or.inl (by decide)))
  have n9_8 : v 33 ≠ v 32 := st_ne (st_T hb3 (fun C h => by cases h)) (st_T hb2 (fun C h => by cases h)) (by decide) (by decide) (Or.inr (Or.inl (by decide)))
  have n10_0 : v 34 ≠ v 0 := st_ne (st_T hb4 (fun C h => by cases h)) (st_T h0 (fun C h => by cases h)) (by decide) (by decide) (Or.inl (by decide))
  have n10_1 : v 34 ≠ v 1 := st_ne (st_T hb4 (fun C h => by cases h)) (st_T h1 (fun C h => by cases h)) (by decide) (by decide) (Or.inl (by decide))
  have n10_2 : v 34 ≠ v 2 := st_ne (st_T hb4 (fun C h => by cases h)) (st_T h2 (fun C h => by cases h)) (by decide) (by decide) (Or.inl (by decide))
  have n10_3 : v 34 ≠ v 3 := st_ne (st_T hb4 (fun C h => by cases h)) (st_T h3 (fun C h => by cases h)) (by decide) (by decide) (Or.inl (by decide))
  have n10_4 : v 34 ≠ v 4 := st_ne (st_T hb4 (fun C h => by cases h)) (st_T h4 (fun C h => by cases h)) (by decide) (by decide) (Or.inl (by decide))
  have n10_5 : v 34 ≠ v 5 := st_ne (st_T hb4 (fun C h => by cases h)) (st_T h5 (fun C h => by cases h)) (by decide) (by decide) (Or.inl (by decide))
  have n10_6 : v 34 ≠ v 30 := st_ne (st_T hb4 (fun C h => by cases h)) (st_T hb0 (fun C h => by cases h)) (by decide) (by decide) (Or.inr (Or.inl (by decide)))
  have n10_7 : v 34 ≠ v 31 := st_ne (st_T hb4 (fun C h => by cases h)) (st_T hb1 (fun C h => by cases h)) (by decide) (by decide) (Or.inr (Or.inl (by decide)))
  have n10_8 : v 34 ≠ v 32 := st_ne (st_T hb4 (fun C h => by cases h)) (st_T hb2 (fun C h => by cases h)) (by decide) (by decide) (Or.inr (Or.inl (by decide)))
  have n10_9 : v 34 ≠ v 33 := st_ne (st_T hb4 (fun C h => by cases h)) (st_T hb3 (fun C h => by cases h)) (by decide) (by decide) (Or.inr (Or.inl (by decide)))
  have n11_0 : v 35 ≠ v 0 := st_ne (st_T hb5 (fun C h => by cases h)) (st_T h0 (fun C h => by cases h)) (by decide) (by decide) (Or.inl (by decide))
  have n11_1 : v 35 ≠ v 1 := st_ne (st_T hb5 (fun C h => by cases h)) (st_T h1 (fun C h => by cases h)) (by decide) (by decide) (Or.inl (by decide))
  have n11_2 : v 35 ≠ v 2 := st_ne (st_T hb5 (fun C h => by cases h)) (st_T h2 (fun C h => by cases h)) (by decide) (by decide) (Or.inl (by decide))
  have n11_3 : v 35 ≠ v 3 := st_ne (st_T hb5 (fun C h => by cases h)) (st_T h3 (fun C h => by cases h)) (by decide) (by decide) (Or.inl (by decide))
  have n11_4 : v 35 ≠ v 4 := st_ne (st_T hb5 (fun C h => by cases h)) (st_T h4 (fun C h => by cases h)) (by decide) (by decide) (Or.inl (by decide))
  have n11_5 : v 35 ≠ v 5 := st_ne (st_T hb5 (fun C h => by cases h)) (st_T h5 (fun C h => by cases h)) (by decide) (by decide) (Or.inl (by decide))
  have n11_6 : v 35 ≠ v 30 := st_ne (st_T hb5 (fun C h => by cases h)) (st_T hb0 (fun C h => by cases h)) (by decide) (by decide) (Or.inr (Or.inl (by decide)))
  have n11_7 : v 35 ≠ v 31 := st_ne (st_T hb5 (fun C h => by cases h)) (st_T hb1 (fun C h => by cases h)) (by decide) (by decide) (Or.inr (Or.inl (by decide)))
  have n11_8 : v 35 ≠ v 32 := st_ne (st_T hb5 (fun C h => by cases h)) (st_T hb2 (fun C h => by cases h)) (by decide) (by decide) (Or.inr (Or.inl (by decide)))
  have n11_9 : v 35 ≠ v 33 := st_ne (st_T hb5 (fun C h => by cases h)) (st_T hb3 (fun C h => by cases h)) (by decide) (by decide) (Or.inr (Or.inl (by decide)))
  have n11_10 : v 35 ≠ v 34 := st_ne (st_T hb5 (fun C h => by cases h)) (st_T hb4 (fun C h => by cases h)) (by decide) (by decide) (Or.inr (Or.inl (by decide)))
  have n12_0 : v 36 ≠ v 0 := st_ne (st_T hb6 (fun C h => by cases h)) (st_T h0 (fun C h => by cases h)) (by decide) (by decide) (Or.inl (by decide))
  have n12_1 : v 36 ≠ v 1 := st_ne (st_T hb6 (fun C h => by cases h)) (st_T h1 (fun C h => by cases h)) (by decide) (by decide) (Or.inl (by decide))
  have n12_2 : v 36 ≠ v 2 := st_ne (st_T hb6 (fun C h => by cases h)) (st_T h2 (fun C h => by cases h)) (by decide) (by decide) (Or.inl (by decide))
  have n12_3 : v 36 ≠ v 3 := st_ne (st_T hb6 (fun C h => by cases h)) (st_T h3 (fun C h => by cases h)) (by decide) (by decide) (Or.inl (by decide))
  have n12_4 : v 36 ≠ v 4 := st_ne (st_T hb6 (fun C h => by cases h)) (st_T h4 (fun C h => by cases h)) (by decide) (by decide) (Or.inl (by decide))
  have n12_5 : v 36 ≠ v 5 := st_ne (st_T hb6 (fun C h => by cases h)) (st_T h5 (fun C h => by cases h)) (by decide) (by decide) (Or.inl (by decide))
  have n12_6 : v 36 ≠ v 30 := st_ne (st_T hb6 (fun C h => by cases h)) (st_T hb0 (fun C h => by cases h)) (by decide) (by decide) (Or.inr (Or.inl (by decide)))
  have n12_7 : v 36 ≠ v 31 := st_ne (st_T hb6 (fun C h => by cases h)) (st_T hb1 (fun C h => by cases h)) (by decide) (by decide) (Or.inr (Or.inl (by decide)))
  have n12_8 : v 36 ≠ v 32 := st_ne (st_T hb6 (fun C h => by cases h)) (st_T hb2 (fun C h => by cases h)) (by decide) (by decide) (Or.inr (Or.inl (by decide)))
  have n12_9 : v 36 ≠ v 33 := st_ne (st_T hb6 (fun C h => by cases h)) (st_T hb3 (fun C h => by cases h)) (by decide) (by decide) (Or.inr (Or.inl (by decide)))
  have n12_10 : v 36 ≠ v 34 := st_ne (st_T hb6 (fun C h => by cases h)) (st_T hb4 (fun C h => by cases h)) (by decide) (by decide) (Or.inr (Or.inl (by decide)))
  have n12_11 : v 36 ≠ v 35 := st_ne (st_T hb6 (fun C h => by cases h)) (st_T hb5 (fun C h => by cases h)) (by decide) (by decide) (Or.inr (Or.inr ⟨0, by decide, by decide⟩))
  have n13_0 : v 37 ≠ v 0 := st_ne (st_T hb7 (fun C h => by cases h)) (st_T h0 (fun C h => by cases h)) (by decide) (by decide) (Or.inl (by decide))
  have n13_1 : v 37 ≠ v 1 := st_ne (st_T hb7 (fun C h => by cases h)) (st_T h1 (fun C h => by cases h)) (by decide) (by decide) (Or.inl (by decide))
  have n13_2 : v 37 ≠ v 2 := st_ne (st_T hb7 (fun C h => by cases h)) (st_T h2 (fun C h => by cases h)) (by decide) (by decide) (Or.inl (by decide))
  have n13_3 : v 37 ≠ v 3 := st_ne (st_T hb7 (fun C h => by cases h)) (st_T h3 (fun C h => by cases h)) (by decide) (by decide) (Or.inl (by decide))
  have n13_4 : v 37 ≠ v 4 := st_ne (st_T hb7 (fun C h => by cases h)) (st_T h4 (fun C h => by cases h)) (by decide) (by decide) (Or.inl (by decide))
  have n13_5 : v 37 ≠ v 5 := st_ne (st_T hb7 (fun C h => by cases h)) (st_T h5 (fun C h => by cases h)) (by decide) (by decide) (Or.inl (by decide))
  have n13_6 : v 37 ≠ v 30 := st_ne (st_T hb7 (fun C h => by cases h)) (st_T hb0 (fun C h => by cases h)) (by decide) (by decide) (Or.inr (Or.inr ⟨0, by decide, by decide⟩))
  have n13_7 : v 37 ≠ v 31 := st_ne (st_T hb7 (fun C h => by cases h)) (st_T hb1 (fun C h => by cases h)) (by decide) (by decide) (Or.inr (Or.inl (by decide)))
  have n13_8 : v 37 ≠ v 32 := st_ne (st_T hb7 (fun C h => by cases h)) (st_T hb2 (fun C h => by cases h)) (by decide) (by decide) (Or.inr (Or.inl (by decide)))
  have n13_9 : v 37 ≠ v 33 := st_ne (st_T hb7 (fun C h => by cases h)) (st_T hb3 (fun C h => by cases h)) (by decide) (by decide) (Or.inr (Or.inl (by decide)))
  have n13_10 : v 37 ≠ v 34 := st_ne (st_T hb7 (fun C h => by cases h)) (st_T hb4 (fun C h => by cases h)) (by decide) (by decide) (Or.inr (Or.inl (by decide)))
  have n13_11 : v 37 ≠ v 35 := st_ne (st_T hb7 (fun C h => by cases h)) (st_T hb5 (fun C h => by cases h)) (by decide) (by decide) (Or.inr (Or.inl (by decide)))
  have n13_12 : v 37 ≠ v 36 := st_ne (st_T hb7 (fun C h => by cases h)) (st_T hb6 (fun C h => by cases h)) (by decide) (by decide) (Or.inr (Or.inl (by decide)))
  have n14_0 : v 38 ≠ v 0 := st_ne (st_T hb8 (fun C h => by cases h)) (st_T h0 (fun C h => by cases h)) (by decide) (by decide) (Or.inl (by decide))
  have n14_1 : v 38 ≠ v 1 := st_ne (st_T hb8 (fun C h => by cases h)) (st_T h1 (fun C h => by cases h)) (by decide) (by decide) (Or.inl (by decide))
  have n14_2 : v 38 ≠ v 2 := st_ne (st_T hb8 (fun C h => by cases h)) (st_T h2 (fun C h => by cases h)) (by decide) (by decide) (Or.inl (by decide))
  have n14_3 : v 38 ≠ v 3 := st_ne (st_T hb8 (fun C h => by cases h)) (st_T h3 (fun C h => by cases h)) (by decide) (by decide) (Or.inl (by decide))
  have n14_4 : v 38 ≠ v 4 := st_ne (st_T hb8 (fun C h => by cases h)) (st_T h4 (fun C h => by cases h)) (by decide) (by decide) (Or.inl (by decide))
  have n14_5 : v 38 ≠ v 5 := st_ne (st_T hb8 (fun C h => by cases h)) (st_T h5 (fun C h => by cases h)) (by decide) (by decide) (Or.inl (by decide))
  have n14_6 : v 38 ≠ v 30 := st_ne (st_T hb8 (fun C h => by cases h)) (st_T hb0 (fun C h => by cases h)) (by decide) (by decide) (Or.inr (Or.inl (by decide)))
  have n14_7 : v 38 ≠ v 31 := st_ne (st_T hb8 (fun C h => by cases h)) (st_T hb1 (fun C h => by cases h)) (by decide) (by decide) (Or.inr (Or.inl (by decide)))
  have n14_8 : v 38 ≠ v 32 := st_ne (st_T hb8 (fun C h => by cases h)) (st_T hb2 (fun C h => by cases h)) (by decide) (by decide) (Or.inr (Or.inl (by decide)))
  have n14_9 : v 38 ≠ v 33 := st_ne (st_T hb8 (fun C h => by cases h)) (st_T hb3 (fun C h => by cases h)) (by decide) (by decide) (Or.inr (Or.inr ⟨0, by decide, by decide⟩))
  have n14_10 : v 38 ≠ v 34 := st_ne (st_T hb8 (fun C h => by cases h)) (st_T hb4 (fun C h => by cases h)) (by decide) (by decide) (Or.inr (Or.inl (by decide)))
  have n14_11 : v 38 ≠ v 35 := st_ne (st_T hb8 (fun C h => by cases h)) (st_T hb5 (fun C h => by cases h)) (by decide) (by decide) (Or.inr (Or.inl (by decide)))
  have n14_12 : v 38 ≠ v 36 := st_ne (st_T hb8 (fun C h => by cases h)) (st_T hb6 (fun C h => by cases h)) (by decide) (by decide) (Or.inr (Or.inl (by decide)))
  have n14_13 : v 38 ≠ v 37 := st_ne (st_T hb8 (fun C h => by cases h)) (st_T hb7 (fun C h => by cases h)) (by decide) (by decide) (Or.inr (Or.inl (by decide)))
  have m1_0 : v 11 ≠ v 10 := va_neR (hs (Cond.not (Cond.eq (Term.string "TarForms$ArchiveWriter" 143) (Term.string "TarForms$ArchiveReader" 211))) (by decide +kernel)) es1 es0
  have m2_0 : v 12 ≠ v 10 := va_neR (hs (Cond.not (Cond.eq (Term.string "TarForms$ArchiveWriter" 153) (Term.string "TarForms$ArchiveReader" 211))) (by decide +kernel)) es2 es0
  have m2_1 : v 12 ≠ v 11 := Ne.symm (va_neR (hs (Cond.not (Cond.eq (Term.string "TarForms$ArchiveWriter" 143) (Term.string "TarForms$ArchiveWriter" 153))) (by decide +kernel)) es1 es2)
  have m3_0 : v 13 ≠ v 10 := va_neR (hs (Cond.not (Cond.eq (Term.string "TarForms$ArchiveWriter" 168) (Term.string "TarForms$ArchiveReader" 211))) (by decide +kernel)) es3 es0
  have m3_1 : v 13 ≠ v 11 := va_neR (hs (Cond.not (Cond.eq (Term.string "TarForms$ArchiveWriter" 168) (Term.string "TarForms$ArchiveWriter" 143))) (by decide +kernel)) es3 es1
  have m3_2 : v 13 ≠ v 12 := va_neR (hs (Cond.not (Cond.eq (Term.string "TarForms$ArchiveWriter" 168) (Term.string "TarForms$ArchiveWriter" 153))) (by decide +kernel)) es3 es2
  have m4_0 : v 14 ≠ v 10 := va_neR (hs (Cond.not (Cond.eq (Term.string "TarForms$ArchiveWriter" 174) (Term.string "TarForms$ArchiveReader" 211))) (by decide +kernel)) es4 es0
  have m4_1 : v 14 ≠ v 11 := va_neR (hs (Cond.not (Cond.eq (Term.string "TarForms$ArchiveWriter" 174) (Term.string "TarForms$ArchiveWriter" 143))) (by decide +kernel)) es4 es1
  have m4_2 : v 14 ≠ v 12 := va_neR (hs (Cond.not (Cond.eq (Term.string "TarForms$ArchiveWriter" 174) (Term.string "TarForms$ArchiveWriter" 153))) (by decide +kernel)) es4 es2
  have m4_3 : v 14 ≠ v 13 := Ne.symm (va_neR (hs (Cond.not (Cond.eq (Term.string "TarForms$ArchiveWriter" 168) (Term.string "TarForms$ArchiveWriter" 174))) (by decide +kernel)) es3 es4)
  have m5_0 : v 15 ≠ v 10 := va_neR (hs (Cond.not (Cond.eq (Term.string "TarForms$ArchiveWriter" 176) (Term.string "TarForms$ArchiveReader" 211))) (by decide +kernel)) es5 es0
  have m5_1 : v 15 ≠ v 11 := va_neR (hs (Cond.not (Cond.eq (Term.string "TarForms$ArchiveWriter" 176) (Term.string "TarForms$ArchiveWriter" 143))) (by decide +kernel)) es5 es1
  have m5_2 : v 15 ≠ v 12 := va_neR (hs (Cond.not (Cond.eq (Term.string "TarForms$ArchiveWriter" 176) (Term.string "TarForms$ArchiveWriter" 153))) (by decide +kernel)) es5 es2
  have m5_3 : v 15 ≠ v 13 := Ne.symm (va_neR (hs (Cond.not (Cond.eq (Term.string "TarForms$ArchiveWriter" 168) (Term.string "TarForms$ArchiveWriter" 176))) (by decide +kernel)) es3 es5)
  have m5_4 : v 15 ≠ v 14 := Ne.symm (va_neR (hs (Cond.not (Cond.eq (Term.string "TarForms$ArchiveWriter" 174) (Term.string "TarForms$ArchiveWriter" 176))) (by decide +kernel)) es4 es5)
  have m6_0 : v 16 ≠ v 10 := va_neR (hs (Cond.not (Cond.eq (Term.string "TarForms$ArchiveWriter" 182) (Term.string "TarForms$ArchiveReader" 211))) (by decide +kernel)) es6 es0
  have m6_1 : v 16 ≠ v 11 := va_neR (hs (Cond.not (Cond.eq (Term.string "TarForms$ArchiveWriter" 182) (Term.string "TarForms$ArchiveWriter" 143))) (by decide +kernel)) es6 es1
  have m6_2 : v 16 ≠ v 12 := va_neR (hs (Cond.not (Cond.eq (Term.string "TarForms$ArchiveWriter" 182) (Term.string "TarForms$ArchiveWriter" 153))) (by decide +kernel)) es6 es2
  have m6_3 : v 16 ≠ v 13 := Ne.symm (va_neR (hs (Cond.not (Cond.eq (Term.string "TarForms$ArchiveWriter" 168) (Term.string "TarForms$ArchiveWriter" 182))) (by decide +kernel)) es3 es6)
  have m6_4 : v 16 ≠ v 14 := Ne.symm (va_neR (hs (Cond.not (Cond.eq (Term.string "TarForms$ArchiveWriter" 174) (Term.string "TarForms$ArchiveWriter" 182))) (by decide +kernel)) es4 es6)
  have m6_5 : v 16 ≠ v 15 := Ne.symm (va_neR (hs (Cond.not (Cond.eq (Term.string "TarForms$ArchiveWriter" 176) (Term.string "TarForms$ArchiveWriter" 182))) (by decide +kernel)) es5 es6)
  have m7_0 : v 17 ≠ v 10 := va_neR (hs (Cond.not (Cond.eq (Term.string "TarForms$ArchiveWriter" 188) (Term.string "TarForms$ArchiveReader" 211))) (by decide +kernel)) es7 es0
  have m7_1 : v 17 ≠ v 11 := va_neR (hs (Cond.not (Cond.eq (Term.string "TarForms$ArchiveWriter" 188) (Term.string "TarForms$ArchiveWriter" 143))) (by decide +kernel)) es7 es1
  have m7_2 : v 17 ≠ v 12 := va_neR (hs (Cond.not (Cond.eq (Term.string "TarForms$ArchiveWriter" 188) (Term.string "TarForms$ArchiveWriter" 153))) (by decide +kernel)) es7 es2
  have m7_3 : v 17 ≠ v 13 := Ne.symm (va_neR (hs (Cond.not (Cond.eq (Term.string "TarForms$ArchiveWriter" 168) (Term.string "TarForms$ArchiveWriter" 188))) (by decide +kernel)) es3 es7)
  have m7_4 : v 17 ≠ v 14 := Ne.symm (va_neR (hs (Cond.not (Cond.eq (Term.string "TarForms$ArchiveWriter" 174) (Term.string "TarForms$ArchiveWriter" 188))) (by decide +kernel)) es4 es7)
  have m7_5 : v 17 ≠ v 15 := Ne.symm (va_neR (hs (Cond.not (Cond.eq (Term.string "TarForms$ArchiveWriter" 176) (Term.string "TarForms$ArchiveWriter" 188))) (by decide +kernel)) es5 es7)
  have m7_6 : v 17 ≠ v 16 := Ne.symm (va_neR (hs (Cond.not (Cond.eq (Term.string "TarForms$ArchiveWriter" 182) (Term.string "TarForms$ArchiveWriter" 188))) (by decide +kernel)) es6 es7)
  have m8_0 : v 18 ≠ v 10 := Ne.symm (va_neR (hs (Cond.not (Cond.eq (Term.string "TarForms$ArchiveReader" 211) (Term.string "TarForms$RowReader" 95))) (by decide +kernel)) es0 es8)
  have m8_1 : v 18 ≠ v 11 := Ne.symm (va_neR (hs (Cond.not (Cond.eq (Term.string "TarForms$ArchiveWriter" 143) (Term.string "TarForms$RowReader" 95))) (by decide +kernel)) es1 es8)
  have m8_2 : v 18 ≠ v 12 := Ne.symm (va_neR (hs (Cond.not (Cond.eq (Term.string "TarForms$ArchiveWriter" 153) (Term.string "TarForms$RowReader" 95))) (by decide +kernel)) es2 es8)
  have m8_3 : v 18 ≠ v 13 := Ne.symm (va_neR (hs (Cond.not (Cond.eq (Term.string "TarForms$ArchiveWriter" 168) (Term.string "TarForms$RowReader" 95))) (by decide +kernel)) es3 es8)
  have m8_4 : v 18 ≠ v 14 := Ne.symm (va_neR (hs (Cond.not (Cond.eq (Term.string "TarForms$ArchiveWriter" 174) (Term.string "TarForms$RowReader" 95))) (by decide +kernel)) es4 es8)
  have m8_5 : v 18 ≠ v 15 := Ne.symm (va_neR (hs (Cond.not (Cond.eq (Term.string "TarForms$ArchiveWriter" 176) (Term.string "TarForms$RowReader" 95))) (by decide +kernel)) es5 es8)
  have m8_6 : v 18 ≠ v 16 := Ne.symm (va_neR (hs (Cond.not (Cond.eq (Term.string "TarForms$ArchiveWriter" 182) (Term.string "TarForms$RowReader" 95))) (by decide +kernel)) es6 es8)
  have m8_7 : v 18 ≠ v 17 := Ne.symm (va_neR (hs (Cond.not (Cond.eq (Term.string "TarForms$ArchiveWriter" 188) (Term.string "TarForms$RowReader" 95))) (by decide +kernel)) es7 es8)
  · have q1 : ∀ q e, g0A v b L xs q = some e → q < s.heap.size := fun q e h => by
      by_cases hq : q < s.heap.size
      · exact hq
      · exfalso
        revert h
        unfold g0A
        rw [if_neg (show ¬ q = v 0 from fun z => hq (by rw [z]; obtain ⟨cell, y, -⟩ := h0; exact (Array.getElem?_eq_some_iff.mp y).1))]
        rw [if_neg (show ¬ q = v 1 from fun z => hq (by rw [z]; obtain ⟨cell, y, -⟩ := h1; exact (Array.getElem?_eq_some_iff.mp y).1))]
        rw [if_neg (show ¬ q = v 2 from fun z => hq (by rw [z]; obtain ⟨cell, y, -⟩ := h2; exact (Array.getElem?_eq_some_iff.mp y).1))]
        rw [if_neg (show ¬ q = v 3 from fun z => hq (by rw [z]; obtain ⟨cell, y, -⟩ := h3; exact (Array.getElem?_eq_some_iff.mp y).1))]
        rw [if_neg (show ¬ q = v 4 from fun z => hq (by rw [z]; obtain ⟨cell, y, -⟩ := h4; exact (Array.getElem?_eq_some_iff.mp y).1))]
        rw [if_neg (show ¬ q = v 5 from fun z => hq (by rw [z]; obtain ⟨cell, y, -⟩ := h5; exact (Array.getElem?_eq_some_iff.mp y).1))]
        rw [if_neg (show ¬ q = v 30 from fun z => hq (by rw [z]; obtain ⟨cell, y, -⟩ := hb0; exact (Array.getElem?_eq_some_iff.mp y).1))]
        rw [if_neg (show ¬ q = v 31 from fun z => hq (by rw [z]; obtain ⟨cell, y, -⟩ := hb1; exact (Array.getElem?_eq_some_iff.mp y).1))]
        rw [if_neg (show ¬ q = v 32 from fun z => hq (by rw [z]; obtain ⟨cell, y, -⟩ := hb2; exact (Array.getElem?_eq_some_iff.mp y).1))]
        rw [if_neg (show ¬ q = v 33 from fun z => hq (by rw [z]; obtain ⟨cell, y, -⟩ := hb3; exact (Array.getElem?_eq_some_iff.mp y).1))]
        rw [if_neg (show ¬ q = v 34 from fun z => hq (by rw [z]; obtain ⟨cell, y, -⟩ := hb4; exact (Array.getElem?_eq_some_iff.mp y).1))]
        rw [if_neg (show ¬ q = v 35 from fun z => hq (by rw [z]; obtain ⟨cell, y, -⟩ := hb5; exact (Array.getElem?_eq_some_iff.mp y).1))]
        rw [if_neg (show ¬ q = v 36 from fun z => hq (by rw [z]; obtain ⟨cell, y, -⟩ := hb6; exact (Array.getElem?_eq_some_iff.mp y).1))]
        rw [if_neg (show ¬ q = v 37 from fun z => hq (by rw [z]; obtain ⟨cell, y, -⟩ := hb7; exact (Array.getElem?_eq_some_iff.mp y).1))]
        rw [if_neg (show ¬ q = v 38 from fun z => hq (by rw [z]; obtain ⟨cell, y, -⟩ := hb8; exact (Array.getElem?_eq_some_iff.mp y).1))]
        rw [if_neg (show ¬ q = b from fun z => hq (by rw [z]; exact hbl))]
        intro h; cases h
    have q2 : ∀ q e, g0O v q = some e → q < s.heap.size := fun q e h => by
      by_cases hq : q < s.heap.size
      · exact hq
      · exfalso
        revert h
        unfold g0O
        rw [if_neg (show ¬ q = v 10 from fun z => hq (by rw [z]; obtain ⟨cell, y, -⟩ := ho0; exact (Array.getElem?_eq_some_iff.mp y).1))]
        rw [if_neg (show ¬ q = v 11 from fun z => hq (by rw [z]; obtain ⟨cell, y, -⟩ := ho1; exact (Array.getElem?_eq_some_iff.mp y).1))]
        rw [if_neg (show ¬ q = v 12 from fun z => hq (by rw [z]; obtain ⟨cell, y, -⟩ := ho2; exact (Array.getElem?_eq_some_iff.mp y).1))]
        rw [if_neg (show ¬ q = v 13 from fun z => hq (by rw [z]; obtain ⟨cell, y, -⟩ := ho3; exact (Array.getElem?_eq_some_iff.mp y).1))]
        rw [if_neg (show ¬ q = v 14 from fun z => hq (by rw [z]; obtain ⟨cell, y, -⟩ := ho4; exact (Array.getElem?_eq_some_iff.mp y).1))]
        rw [if_neg (show ¬ q = v 15 from fun z => hq (by rw [z]; obtain ⟨cell, y, -⟩ := ho5; exact (Array.getElem?_eq_some_iff.mp y).1))]
        rw [if_neg (show ¬ q = v 16 from fun z => hq (by rw [z]; obtain ⟨cell, y, -⟩ := ho6; exact (Array.getElem?_eq_some_iff.mp y).1))]
        rw [if_neg (show ¬ q = v 17 from fun z => hq (by rw [z]; obtain ⟨cell, y, -⟩ := ho7; exact (Array.getElem?_eq_some_iff.mp y).1))]
        rw [if_neg (show ¬ q = v 18 from fun z => hq (by rw [z]; obtain ⟨cell, y, -⟩ := ho8; exact (Array.getElem?_eq_some_iff.mp y).1))]
        intro h; cases h
    refine ⟨?_, ?_, ?_, ?_, ?_, ?_, ?_, ?_, ?_, ?_, ?_, ?_, ?_, ?_, ?_, ?_, ?_, ?_, ?_, ?_, ?_, ?_, ?_, ?_, ?_, q1, q2⟩
    · show g0A v b L xs (v 0) = _
      unfold g0A
      exact if_pos rfl
    · show g0A v b L xs (v 1) = _
      unfold g0A
      rw [if_neg (show ¬ v 1 = v 0 from n1_0)]
      exact if_pos rfl
    · show g0A v b L xs (v 2) = _
      unfold g0A
      rw [if_neg (show ¬ v 2 = v 0 from n2_0)]
      rw [if_neg (show ¬ v 2 = v 1 from n2_1)]
      exact if_pos rfl
    · show g0A v b L xs (v 3) = _
      unfold g0A
      rw [if_neg (show ¬ v 3 = v 0 from n3_0)]
      rw [if_neg (show ¬ v 3 = v 1 from n3_1)]
      rw [if_neg (show ¬ v 3 = v 2 from n3_2)]
      exact if_pos rfl
    · show g0A v b L xs (v 4) = _
      unfold g0A
      rw [if_neg (show ¬ v 4 = v 0 from n4_0)]
      rw [if_neg (show ¬ v 4 = v 1 from n4_1)]
      rw [if_neg (show ¬ v 4 = v 2 from n4_2)]
      rw [if_neg (show ¬ v 4 = v 3 from n4_3)]
      exact if_pos rfl
    · show g0A v b L xs (v 5) = _
      unfold g0A
      rw [if_neg (show ¬ v 5 = v 0 from n5_0)]
      rw [if_neg (show ¬ v 5 = v 1 from n5_1)]
      rw [if_neg (show ¬ v 5 = v 2 from n5_2)]
      rw [if_neg (show ¬ v 5 = v 3 from n5_3)]
      rw [if_neg (show ¬ v 5 = v 4 from n5_4)]
      exact if_pos rfl
    · show g0A v b L xs (v 30) = _
      unfold g0A
      rw [if_neg (show ¬ v 30 = v 0 from n6_0)]
      rw [if_neg (show ¬ v 30 = v 1 from n6_1)]
      rw [if_neg (show ¬ v 30 = v 2 from n6_2)]
      rw [if_neg (show ¬ v 30 = v 3 from n6_3)]
      rw [if_neg (show ¬ v 30 = v 4 from n6_4)]
      rw [if_neg (show ¬ v 30 = v 5 from n6_5)]
      exact if_pos rfl
    · show g0A v b L xs (v 31) = _
      unfold g0A
      rw [if_neg (show ¬ v 31 = v 0 from n7_0)]
      rw [if_neg (show ¬ v 31 = v 1 from n7_1)]
      rw [if_neg (show ¬ v 31 = v 2 from n7_2)]
      rw [if_neg (show ¬ v 31 = v 3 from n7_3)]
      rw [if_neg (show ¬ v 31 = v 4 from n7_4)]
      rw [if_neg (show ¬ v 31 = v 5 from n7_5)]
      rw [if_neg (show ¬ v 31 = v 30 from n7_6)]
      exact if_pos rfl
    · show g0A v b L xs (v 32) = _
      unfold g0A
      rw [if_neg (show ¬ v 32 = v 0 from n8_0)]
      rw [if_neg (show ¬ v 32 = v 1 from n8_1)]
      rw [if_neg (show ¬ v 32 = v 2 from n8_2)]
      rw [if_neg (show ¬ v 32 = v 3 from n8_3)]
      rw [if_neg (show ¬ v 32 = v 4 from n8_4)]
      rw [if_neg (show ¬ v 32 = v 5 from n8_5)]
      rw [if_neg (show ¬ v 32 = v 30 from n8_6)]
      rw [if_neg (show ¬ v 32 = v 31 from n8_7)]
      exact if_pos rfl
    · show g0A v b L xs (v 33) = _
      unfold g0A
      rw [if_neg (show ¬ v 33 = v 0 from n9_0)]
      rw [if_neg (show ¬ v 33 = v 1 from n9_1)]
      rw [if_neg (show ¬ v 33 = v 2 from n9_2)]
      rw [if_neg (show ¬ v 33 = v 3 from n9_3)]
      rw [if_neg (show ¬ v 33 = v 4 from n9_4)]
      rw [if_neg (show ¬ v 33 = v 5 from n9_5)]
      rw [if_neg (show ¬ v 33 = v 30 from n9_6)]
      rw [if_neg (show ¬ v 33 = v 31 from n9_7)]
      rw [if_neg (show ¬ v 33 = v 32 from n9_8)]
      exact if_pos rfl
    · show g0A v b L xs (v 34) = _
      unfold g0A
      rw [if_neg (show ¬ v 34 = v 0 from n10_0)]
      rw [if_neg (show ¬ v 34 = v 1 from n10_1)]
      rw [if_neg (show ¬ v 34 = v 2 from n10_2)]
      rw [if_neg (show ¬ v 34 = v 3 from n10_3)]
      rw [if_neg (show ¬ v 34 = v 4 from n10_4)]
      rw [if_neg (show ¬ v 34 = v 5 from n10_5)]
      rw [if_neg (show ¬ v 34 = v 30 from n10_6)]
      rw [if_neg (show ¬ v 34 = v 31 from n10_7)]
      rw [if_neg (show ¬ v 34 = v 32 from n10_8)]
      rw [if_neg (show ¬ v 34 = v 33 from n10_9)]
      exact if_pos rfl
    · show g0A v b L xs (v 35) = _
      unfold g0A
      rw [if_neg (show ¬ v 35 = v 0 from n11_0)]
      rw [if_neg (show ¬ v 35 = v 1 from n11_1)]
      rw [if_neg (show ¬ v 35 = v 2 from n11_2)]
      rw [if_neg (show ¬ v 35 = v 3 from n11_3)]
      rw [if_neg (show ¬ v 35 = v 4 from n11_4)]
      rw [if_neg (show ¬ v 35 = v 5 from n11_5)]
      rw [if_neg (show ¬ v 35 = v 30 from n11_6)]
      rw [if_neg (show ¬ v 35 = v 31 from n11_7)]
      rw [if_neg (show ¬ v 35 = v 32 from n11_8)]
      rw [if_neg (show ¬ v 35 = v 33 from n11_9)]
      rw [if_neg (show ¬ v 35 = v 34 from n11_10)]
      exact if_pos rfl
    · show g0A v b L xs (v 36) = _
      unfold g0A
      rw [if_neg (show ¬ v 36 = v 0 from n12_0)]
      rw [if_neg (show ¬ v 36 = v 1 from n12_1)]
      rw [if_neg (show ¬ v 36 = v 2 from n12_2)]
      rw [if_neg (show ¬ v 36 = v 3 from n12_3)]
      rw [if_neg (show ¬ v 36 = v 4 from n12_4)]
      rw [if_neg (show ¬ v 36 = v 5 from n12_5)]
      rw [if_neg (show ¬ v 36 = v 30 from n12_6)]
      rw [if_neg (show ¬ v 36 = v 31 from n12_7)]
      rw [if_neg (show ¬ v 36 = v 32 from n12_8)]
      rw [if_neg (show ¬ v 36 = v 33 from n12_9)]
      rw [if_neg (show ¬ v 36 = v 34 from n12_10)]
      rw [if_neg (show ¬ v 36 = v 35 from n12_11)]
      exact if_pos rfl
    · show g0A v b L xs (v 37) = _
      unfold g0A
      rw [if_neg (show ¬ v 37 = v 0 from n13_0)]
      rw [if_neg (show ¬ v 37 = v 1 from n13_1)]
      rw [if_neg (show ¬ v 37 = v 2 from n13_2)]
      rw [if_neg (show ¬ v 37 = v 3 from n13_3)]
      rw [if_neg (show ¬ v 37 = v 4 from n13_4)]
      rw [if_neg (show ¬ v 37 = v 5 from n13_5)]
      rw [if_neg (show ¬ v 37 = v 30 from n13_6)]
      rw [if_neg (show ¬ v 37 = v 31 from n13_7)]
      rw [if_neg (show ¬ v 37 = v 32 from n13_8)]
      rw [if_neg (show ¬ v 37 = v 33 from n13_9)]
      rw [if_neg (show ¬ v 37 = v 34 from n13_10)]
      rw [if_neg (show ¬ v 37 = v 35 from n13_11)]
      rw [if_neg (show ¬ v 37 = v 36 from n13_12)]
      exact if_pos rfl
    · show g0A v b L xs (v 38) = _
      unfold g0A
      rw [if_neg (show ¬ v 38 = v 0 from n14_0)]
      rw [if_neg (show ¬ v 38 = v 1 from n14_1)]
      rw [if_neg (show ¬ v 38 = v 2 from n14_2)]
      rw [if_neg (show ¬ v 38 = v 3 from n14_3)]
      rw [if_neg (show ¬ v 38 = v 4 from n14_4)]
      rw [if_neg (show ¬ v 38 = v 5 from n14_5)]
      rw [if_neg (show ¬ v 38 = v 30 from n14_6)]
      rw [if_neg (show ¬ v 38 = v 31 from n14_7)]
      rw [if_neg (show ¬ v 38 = v 32 from n14_8)]
      rw [if_neg (show ¬ v 38 = v 33 from n14_9)]
      rw [if_neg (show ¬ v 38 = v 34 from n14_10)]
      rw [if_neg (show ¬ v 38 = v 35 from n14_11)]
      rw [if_neg (show ¬ v 38 = v 36 from n14_12)]
      rw [if_neg (show ¬ v 38 = v 37 from n14_13)]
      exact if_pos rfl
    · show g0O v (v 10) = _
      unfold g0O
      exact if_pos rfl
    · show g0O v (v 11) = _
      unfold g0O
      rw [if_neg (show ¬ v 11 = v 10 from m1_0)]
      exact if_pos rfl
    · show g0O v (v 12) = _
      unfold g0O
      rw [if_neg (show ¬ v 12 = v 10 from m2_0)]
      rw [if_neg (show ¬ v 12 = v 11 from m2_1)]
      exact if_pos rfl
    · show g0O v (v 13) = _
      unfold g0O
      rw [if_neg (show ¬ v 13 = v 10 from m3_0)]
      rw [if_neg (show ¬ v 13 = v 11 from m3_1)]
      rw [if_neg (show ¬ v 13 = v 12 from m3_2)]
      exact if_pos rfl
    · show g0O v (v 14) = _
      unfold g0O
      rw [if_neg (show ¬ v 14 = v 10 from m4_0)]
      rw [if_neg (show ¬ v 14 = v 11 from m4_1)]
      rw [if_neg (show ¬ v 14 = v 12 from m4_2)]
      rw [if_neg (show ¬ v 14 = v 13 from m4_3)]
      exact if_pos rfl
    · show g0O v (v 15) = _
      unfold g0O
      rw [if_neg (show ¬ v 15 = v 10 from m5_0)]
      rw [if_neg (show ¬ v 15 = v 11 from m5_1)]
      rw [if_neg (show ¬ v 15 = v 12 from m5_2)]
      rw [if_neg (show ¬ v 15 = v 13 from m5_3)]
      rw [if_neg (show ¬ v 15 = v 14 from m5_4)]
      exact if_pos rfl
    · show g0O v (v 16) = _
      unfold g0O
      rw [if_neg (show ¬ v 16 = v 10 from m6_0)]
      rw [if_neg (show ¬ v 16 = v 11 from m6_1)]
      rw [if_neg (show ¬ v 16 = v 12 from m6_2)]
      rw [if_neg (show ¬ v 16 = v 13 from m6_3)]
      rw [if_neg (show ¬ v 16 = v 14 from m6_4)]
      rw [if_neg (show ¬ v 16 = v 15 from m6_5)]
      exact if_pos rfl
    · show g0O v (v 17) = _
      unfold g0O
      rw [if_neg (show ¬ v 17 = v 10 from m7_0)]
      rw [if_neg (show ¬ v 17 = v 11 from m7_1)]
      rw [if_neg (show ¬ v 17 = v 12 from m7_2)]
      rw [if_neg (show ¬ v 17 = v 13 from m7_3)]
      rw [if_neg (show ¬ v 17 = v 14 from m7_4)]
      rw [if_neg (show ¬ v 17 = v 15 from m7_5)]
      rw [if_neg (show ¬ v 17 = v 16 from m7_6)]
      exact if_pos rfl
    · show g0O v (v 18) = _
      unfold g0O
      rw [if_neg (show ¬ v 18 = v 10 from m8_0)]
      rw [if_neg (show ¬ v 18 = v 11 from m8_1)]
      rw [if_neg (show ¬ v 18 = v 12 from m8_2)]
      rw [if_neg (show ¬ v 18 = v 13 from m8_3)]
      rw [if_neg (show ¬ v 18 = v 14 from m8_4)]
      rw [if_neg (show ¬ v 18 = v 15 from m8_5)]
      rw [if_neg (show ¬ v 18 = v 16 from m8_6)]
      rw [if_neg (show ¬ v 18 = v 17 from m8_7)]
      exact if_pos rfl
    · show ∃ n f, g0A v b L xs b = some (.int, false, n, f) ∧ n ≤ 2560 ∧ ∀ j, j < n → ∃ x, f j = .int x
      unfold g0A
      rw [if_neg (show ¬ b = v 0 from st_ne (st_X hX) (st_T h0 (fun C h => by cases h)) (by omega) (by decide) (Or.inl (by decide)))]
      rw [if_neg (show ¬ b = v 1 from st_ne (st_X hX) (st_T h1 (fun C h => by cases h)) (by omega) (by decide) (Or.inl (by decide)))]
      by_cases hb2_ : b = v 2
      · rw [if_pos hb2_]
        exact ⟨_, _, rfl, by decide, fun j _ => ⟨_, rfl⟩⟩
      rw [if_neg (show ¬ b = v 2 from hb2_)]
      by_cases hb3_ : b = v 3
      · rw [if_pos hb3_]
        exact ⟨_, _, rfl, by decide, fun j _ => ⟨_, rfl⟩⟩
      rw [if_neg (show ¬ b = v 3 from hb3_)]
      by_cases hb4_ : b = v 4
      · rw [if_pos hb4_]
        exact ⟨_, _, rfl, by decide, fun j _ => ⟨_, rfl⟩⟩
      rw [if_neg (show ¬ b = v 4 from hb4_)]
      by_cases hb5_ : b = v 5
      · rw [if_pos hb5_]
        exact ⟨_, _, rfl, by decide, fun j _ => ⟨_, rfl⟩⟩
      rw [if_neg (show ¬ b = v 5 from hb5_)]
      rw [if_neg (show ¬ b = v 30 from st_ne (st_X hX) (st_T hb0 (fun C h => by cases h)) (by omega) (by decide) (Or.inl (by decide)))]
      rw [if_neg (show ¬ b = v 31 from st_ne (st_X hX) (st_T hb1 (fun C h => by cases h)) (by omega) (by decide) (Or.inl (by decide)))]
      rw [if_neg (show ¬ b = v 32 from st_ne (st_X hX) (st_T hb2 (fun C h => by cases h)) (by omega) (by decide) (Or.inl (by decide)))]
      rw [if_neg (show ¬ b = v 33 from st_ne (st_X hX) (st_T hb3 (fun C h => by cases h)) (by omega) (by decide) (Or.inl (by decide)))]
      rw [if_neg (show ¬ b = v 34 from st_ne (st_X hX) (st_T hb4 (fun C h => by cases h)) (by omega) (by decide) (Or.inl (by decide)))]
      rw [if_neg (show ¬ b = v 35 from st_ne (st_X hX) (st_T hb5 (fun C h => by cases h)) (by omega) (by decide) (Or.inl (by decide)))]
      rw [if_neg (show ¬ b = v 36 from st_ne (st_X hX) (st_T hb6 (fun C h => by cases h)) (by omega) (by decide) (Or.inl (by decide)))]
      rw [if_neg (show ¬ b = v 37 from st_ne (st_X hX) (st_T hb7 (fun C h => by cases h)) (by omega) (by decide) (Or.inl (by decide)))]
      rw [if_neg (show ¬ b = v 38 from st_ne (st_X hX) (st_T hb8 (fun C h => by cases h)) (by omega) (by decide) (Or.inl (by decide)))]
      rw [if_pos rfl]
      exact ⟨_, _, rfl, hL, fun j _ => ⟨_, rfl⟩⟩
  · refine ⟨⟨Nat.le_refl _, rfl⟩, hK, ⟨fun w hw => ?_, fun i q hq => ?_, fun i q hq => ?_, fun C hC => ?_⟩, fun q e hq => ?_, fun q e hq => ?_, fun q hq => ?_⟩
    · exact va_Nw.of (by have h2 := (List.mem_filter.mp hw).2; cases w <;> first | (cases h2; done) | rfl) (hts w (List.mem_filter.mp hw).1)
    · match i, hq with
      | 0, hq => cases hq; exact va_Zof (hts _ (List.mem_of_getElem? (i := 448) (by decide +kernel))) (hts _ (List.mem_of_getElem? (i := 80) (by decide +kernel))) e0 (fun a h => Nat.not_le.mpr h)
      | 1, hq => cases hq; exact va_Zof (hts _ (List.mem_of_getElem? (i := 450) (by decide +kernel))) (hts _ (List.mem_of_getElem? (i := 80) (by decide +kernel))) e1 (fun a h => Nat.not_le.mpr h)
      | 2, hq => cases hq; exact va_Zof (hts _ (List.mem_of_getElem? (i := 658) (by decide +kernel))) (hts _ (List.mem_of_getElem? (i := 80) (by decide +kernel))) e2 (fun a h => Nat.not_le.mpr h)
      | 3, hq => cases hq; exact va_Zof (hts _ (List.mem_of_getElem? (i := 664) (by decide +kernel))) (hts _ (List.mem_of_getElem? (i := 80) (by decide +kernel))) e3 (fun a h => Nat.not_le.mpr h)
      | 4, hq => cases hq; exact va_Zof (hts _ (List.mem_of_getElem? (i := 786) (by decide +kernel))) (hts _ (List.mem_of_getElem? (i := 87) (by decide +kernel))) e4 (fun a h => Nat.not_le.mpr h)
      | 5, hq => cases hq; exact va_Zof (hts _ (List.mem_of_getElem? (i := 788) (by decide +kernel))) (hts _ (List.mem_of_getElem? (i := 87) (by decide +kernel))) e5 (fun a h => Nat.not_le.mpr h)
      | 6, hq => cases hq; exact va_Zof (hts _ (List.mem_of_getElem? (i := 540) (by decide +kernel))) (hts _ (List.mem_of_getElem? (i := 92) (by decide +kernel))) (va_eqt (hs (Cond.eq (.static "java/lang/String" "COMPACT_STRINGS" "Z") (.int 1)) (by decide +kernel))) (fun a h => Nat.not_le.mpr h)
      | 7, hq => cases hq; exact hz
      | i + 8, hq => simp [gSt0] at hq
    · match i, hq with
      | 0, hq => cases hq; exact vk_R.of (hts (.stringRef "TarForms$ArchiveReader" 211 "ustar") (List.mem_of_getElem? (i := 825) (by decide +kernel))) es0
      | 1, hq => cases hq; exact vk_R.of (hts (.stringRef "TarForms$ArchiveWriter" 143 "PaxHeader") (List.mem_of_getElem? (i := 629) (by decide +kernel))) es1
      | 2, hq => cases hq; exact vk_R.of (hts (.stringRef "TarForms$ArchiveWriter" 153 "././@LongLink") (List.mem_of_getElem? (i := 685) (by decide +kernel))) es2
      | 3, hq => cases hq; exact vk_R.of (hts (.stringRef "TarForms$ArchiveWriter" 168 "path") (List.mem_of_getElem? (i := 526) (by decide +kernel))) es3
      | 4, hq => cases hq; exact vk_R.of (hts (.stringRef "TarForms$ArchiveWriter" 174 "linkpath") (List.mem_of_getElem? (i := 596) (by decide +kernel))) es4
      | 5, hq => cases hq; exact vk_R.of (hts (.stringRef "TarForms$ArchiveWriter" 176 "uid") (List.mem_of_getElem? (i := 598) (by decide +kernel))) es5
      | 6, hq => cases hq; exact vk_R.of (hts (.stringRef "TarForms$ArchiveWriter" 182 "gid") (List.mem_of_getElem? (i := 603) (by decide +kernel))) es6
      | 7, hq => cases hq; exact vk_R.of (hts (.stringRef "TarForms$ArchiveWriter" 188 "mtime") (List.mem_of_getElem? (i := 617) (by decide +kernel))) es7
      | 8, hq => cases hq; exact vk_R.of (hts (.stringRef "TarForms$RowReader" 53 "path") (List.mem_of_getElem? (i := 881) (by decide +kernel))) (va_eqR (hs (Cond.eq (Term.string "TarForms$ArchiveWriter" 168) (Term.string "TarForms$RowReader" 53)) (by decide +kernel)) es3)
      | 9, hq => cases hq; exact vk_R.of (hts (.stringRef "TarForms$RowReader" 72 "linkpath") (List.mem_of_getElem? (i := 892) (by decide +kernel))) (va_eqR (hs (Cond.eq (Term.string "TarForms$ArchiveWriter" 174) (Term.string "TarForms$RowReader" 72)) (by decide +kernel)) es4)
      | 10, hq => cases hq; exact vk_R.of (hts (.stringRef "TarForms$RowReader" 77 "mtime") (List.mem_of_getElem? (i := 893) (by decide +kernel))) (va_eqR (hs (Cond.eq (Term.string "TarForms$ArchiveWriter" 188) (Term.string "TarForms$RowReader" 77)) (by decide +kernel)) es7)
      | 11, hq => cases hq; exact vk_R.of (hts (.stringRef "TarForms$RowReader" 82 "uid") (List.mem_of_getElem? (i := 907) (by decide +kernel))) (va_eqR (hs (Cond.eq (Term.string "TarForms$ArchiveWriter" 176) (Term.string "TarForms$RowReader" 82)) (by decide +kernel)) es5)
      | 12, hq => cases hq; exact vk_R.of (hts (.stringRef "TarForms$RowReader" 91 "gid") (List.mem_of_getElem? (i := 913) (by decide +kernel))) (va_eqR (hs (Cond.eq (Term.string "TarForms$ArchiveWriter" 182) (Term.string "TarForms$RowReader" 91)) (by decide +kernel)) es6)
      | 13, hq => cases hq; exact vk_R.of (hts (.stringRef "TarForms$RowReader" 95 "size") (List.mem_of_getElem? (i := 914) (by decide +kernel))) es8
      | i + 14, hq => simp [gSites] at hq
    · rcases List.mem_cons.mp hC with rfl | hC
      · exact va_AO.of (hts _ (List.mem_of_getElem? (i := 124) (by decide +kernel)))
      · rcases List.mem_cons.mp hC with rfl | hC
        · exact va_AO.of (hts _ (List.mem_of_getElem? (i := 150) (by decide +kernel)))
        · cases hC
    · revert hq
      show g0A v b L xs q = some e → _
      unfold g0A
      by_cases hq0_ : q = v 0
      · rw [if_pos (show q = v 0 from hq0_)]
        intro h
        cases h
        subst hq0_
        exact ⟨(fun h => by cases h), by decide, st_T h0 (fun C h => by cases h)⟩
      rw [if_neg (show ¬ q = v 0 from hq0_)]
      by_cases hq1_ : q = v 1
      · rw [if_pos (show q = v 1 from hq1_)]
        intro h
        cases h
        subst hq1_
        exact ⟨(fun h => by cases h), by decide, st_T h1 (fun C h => by cases h)⟩
      rw [if_neg (show ¬ q = v 1 from hq1_)]
      by_cases hq2_ : q = v 2
      · rw [if_pos (show q = v 2 from hq2_)]
        intro h
        cases h
        subst hq2_
        exact ⟨(fun h => by cases h), by decide, st_T h2 (fun C h => by cases h)⟩
      rw [if_neg (show ¬ q = v 2 from hq2_)]
      by_cases hq3_ : q = v 3
      · rw [if_pos (show q = v 3 from hq3_)]
        intro h
        cases h
        subst hq3_
        exact ⟨(fun h => by cases h), by decide, st_T h3 (fun C h => by cases h)⟩
      rw [if_neg (show ¬ q = v 3 from hq3_)]
      by_cases hq4_ : q = v 4
      · rw [if_pos (show q = v 4 from hq4_)]
        intro h
        cases h
        subst hq4_
        exact ⟨(fun h => by cases h), by decide, st_T h4 (fun C h => by cases h)⟩
      rw [if_neg (show ¬ q = v 4 from hq4_)]
      by_cases hq5_ : q = v 5
      · rw [if_pos (show q = v 5 from hq5_)]
        intro h
        cases h
        subst hq5_
        exact ⟨(fun h => by cases h), by decide, st_T h5 (fun C h => by cases h)⟩
      rw [if_neg (show ¬ q = v 5 from hq5_)]
      by_cases hq30_ : q = v 30
      · rw [if_pos (show q = v 30 from hq30_)]
        intro h
        cases h
        subst hq30_
        exact ⟨(fun h => by cases h), by decide, st_T hb0 (fun C h => by cases h)⟩
      rw [if_neg (show ¬ q = v 30 from hq30_)]
      by_cases hq31_ : q = v 31
      · rw [if_pos (show q = v 31 from hq31_)]
        intro h
        cases h
        subst hq31_
        exact ⟨(fun h => by cases h), by decide, st_T hb1 (fun C h => by cases h)⟩
      rw [if_neg (show ¬ q = v 31 from hq31_)]
      by_cases hq32_ : q = v 32
      · rw [if_pos (show q = v 32 from hq32_)]
        intro h
        cases h
        subst hq32_
        exact ⟨(fun h => by cases h), by decide, st_T hb2 (fun C h => by cases h)⟩
      rw [if_neg (show ¬ q = v 32 from hq32_)]
      by_cases hq33_ : q = v 33
      · rw [if_pos (show q = v 33 from hq33_)]
        intro h
        cases h
        subst hq33_
        exact ⟨(fun h => by cases h), by decide, st_T hb3 (fun C h => by cases h)⟩
      rw [if_neg (show ¬ q = v 33 from hq33_)]
      by_cases hq34_ : q = v 34
      · rw [if_pos (show q = v 34 from hq34_)]
        intro h
        cases h
        subst hq34_
        exact ⟨(fun h => by cases h), by decide, st_T hb4 (fun C h => by cases h)⟩
      rw [if_neg (show ¬ q = v 34 from hq34_)]
      by_cases hq35_ : q = v 35
      · rw [if_pos (show q = v 35 from hq35_)]
        intro h
        cases h
        subst hq35_
        exact ⟨(fun h => by cases h), by decide, st_T hb5 (fun C h => by cases h)⟩
      rw [if_neg (show ¬ q = v 35 from hq35_)]
      by_cases hq36_ : q = v 36
      · rw [if_pos (show q = v 36 from hq36_)]
        intro h
        cases h
        subst hq36_
        exact ⟨(fun h => by cases h), by decide, st_T hb6 (fun C h => by cases h)⟩
      rw [if_neg (show ¬ q = v 36 from hq36_)]
      by_cases hq37_ : q = v 37
      · rw [if_pos (show q = v 37 from hq37_)]
        intro h
        cases h
        subst hq37_
        exact ⟨(fun h => by cases h), by decide, st_T hb7 (fun C h => by cases h)⟩
      rw [if_neg (show ¬ q = v 37 from hq37_)]
      by_cases hq38_ : q = v 38
      · rw [if_pos (show q = v 38 from hq38_)]
        intro h
        cases h
        subst hq38_
        exact ⟨(fun h => by cases h), by decide, st_T hb8 (fun C h => by cases h)⟩
      rw [if_neg (show ¬ q = v 38 from hq38_)]
      by_cases hqb : q = b
      · rw [if_pos hqb]
        intro h
        cases h
        subst hqb
        exact ⟨(fun h => by cases h), by show L < 2 ^ 31; omega, st_X hX⟩
      rw [if_neg hqb]
      intro h; cases h
    · revert hq
      show g0O v q = some e → _
      unfold g0O
      by_cases hq0_ : q = v 10
      · rw [if_pos (show q = v 10 from hq0_)]
        intro h
        cases h
        subst hq0_
        exact Or.inr ⟨rfl, v 30, rfl, ho0, hv0, hc0⟩
      rw [if_neg (show ¬ q = v 10 from hq0_)]
      by_cases hq1_ : q = v 11
      · rw [if_pos (show q = v 11 from hq1_)]
        intro h
        cases h
        subst hq1_
        exact Or.inr ⟨rfl, v 31, rfl, ho1, hv1, hc1⟩
      rw [if_neg (show ¬ q = v 11 from hq1_)]
      by_cases hq2_ : q = v 12
      · rw [if_pos (show q = v 12 from hq2_)]
        intro h
        cases h
        subst hq2_
        exact Or.inr ⟨rfl, v 32, rfl, ho2, hv2, hc2⟩
      rw [if_neg (show ¬ q = v 12 from hq2_)]
      by_cases hq3_ : q = v 13
      · rw [if_pos (show q = v 13 from hq3_)]
        intro h
        cases h
        subst hq3_
        exact Or.inr ⟨rfl, v 33, rfl, ho3, hv3, hc3⟩
      rw [if_neg (show ¬ q = v 13 from hq3_)]
      by_cases hq4_ : q = v 14
      · rw [if_pos (show q = v 14 from hq4_)]
        intro h
        cases h
        subst hq4_
        exact Or.inr ⟨rfl, v 34, rfl, ho4, hv4, hc4⟩
      rw [if_neg (show ¬ q = v 14 from hq4_)]
      by_cases hq5_ : q = v 15
      · rw [if_pos (show q = v 15 from hq5_)]
        intro h
        cases h
        subst hq5_
        exact Or.inr ⟨rfl, v 35, rfl, ho5, hv5, hc5⟩
      rw [if_neg (show ¬ q = v 15 from hq5_)]
      by_cases hq6_ : q = v 16
      · rw [if_pos (show q = v 16 from hq6_)]
        intro h
        cases h
        subst hq6_
        exact Or.inr ⟨rfl, v 36, rfl, ho6, hv6, hc6⟩
      rw [if_neg (show ¬ q = v 16 from hq6_)]
      by_cases hq7_ : q = v 17
      · rw [if_pos (show q = v 17 from hq7_)]
        intro h
        cases h
        subst hq7_
        exact Or.inr ⟨rfl, v 37, rfl, ho7, hv7, hc7⟩
      rw [if_neg (show ¬ q = v 17 from hq7_)]
      by_cases hq8_ : q = v 18
      · rw [if_pos (show q = v 18 from hq8_)]
        intro h
        cases h
        subst hq8_
        exact Or.inr ⟨rfl, v 38, rfl, ho8, hv8, hc8⟩
      rw [if_neg (show ¬ q = v 18 from hq8_)]
      intro h; cases h
    · refine Or.inl ?_
      show g0A v b L xs q = none
      unfold g0A
      rw [if_neg (show ¬ q = v 0 from fun z => Nat.not_lt.mpr hq (by rw [z]; obtain ⟨cell, y, -⟩ := h0; exact (Array.getElem?_eq_some_iff.mp y).1))]
      rw [if_neg (show ¬ q = v 1 from fun z => Nat.not_lt.mpr hq (by rw [z]; obtain ⟨cell, y, -⟩ := h1; exact (Array.getElem?_eq_some_iff.mp y).1))]
      rw [if_neg (show ¬ q = v 2 from fun z => Nat.not_lt.mpr hq (by rw [z]; obtain ⟨cell, y, -⟩ := h2; exact (Array.getElem?_eq_some_iff.mp y).1))]
      rw [if_neg (show ¬ q = v 3 from fun z => Nat.not_lt.mpr hq (by rw [z]; obtain ⟨cell, y, -⟩ := h3; exact (Array.getElem?_eq_some_iff.mp y).1))]
      rw [if_neg (show ¬ q = v 4 from fun z => Nat.not_lt.mpr hq (by rw [z]; obtain ⟨cell, y, -⟩ := h4; exact (Array.getElem?_eq_some_iff.mp y).1))]
      rw [if_neg (show ¬ q = v 5 from fun z => Nat.not_lt.mpr hq (by rw [z]; obtain ⟨cell, y, -⟩ := h5; exact (Array.getElem?_eq_some_iff.mp y).1))]
      rw [if_neg (show ¬ q = v 30 from fun z => Nat.not_lt.mpr hq (by rw [z]; obtain ⟨cell, y, -⟩ := hb0; exact (Array.getElem?_eq_some_iff.mp y).1))]
      rw [if_neg (show ¬ q = v 31 from fun z => Nat.not_lt.mpr hq (by rw [z]; obtain ⟨cell, y, -⟩ := hb1; exact (Array.getElem?_eq_some_iff.mp y).1))]
      rw [if_neg (show ¬ q = v 32 from fun z => Nat.not_lt.mpr hq (by rw [z]; obtain ⟨cell, y, -⟩ := hb2; exact (Array.getElem?_eq_some_iff.mp y).1))]
      rw [if_neg (show ¬ q = v 33 from fun z => Nat.not_lt.mpr hq (by rw [z]; obtain ⟨cell, y, -⟩ := hb3; exact (Array.getElem?_eq_some_iff.mp y).1))]
      rw [if_neg (show ¬ q = v 34 from fun z => Nat.not_lt.mpr hq (by rw [z]; obtain ⟨cell, y, -⟩ := hb4; exact (Array.getElem?_eq_some_iff.mp y).1))]
      rw [if_neg (show ¬ q = v 35 from fun z => Nat.not_lt.mpr hq (by rw [z]; obtain ⟨cell, y, -⟩ := hb5; exact (Array.getElem?_eq_some_iff.mp y).1))]
      rw [if_neg (show ¬ q = v 36 from fun z => Nat.not_lt.mpr hq (by rw [z]; obtain ⟨cell, y, -⟩ := hb6; exact (Array.getElem?_eq_some_iff.mp y).1))]
      rw [if_neg (show ¬ q = v 37 from fun z => Nat.not_lt.mpr hq (by rw [z]; obtain ⟨cell, y, -⟩ := hb7; exact (Array.getElem?_eq_some_iff.mp y).1))]
      rw [if_neg (show ¬ q = v 38 from fun z => Nat.not_lt.mpr hq (by rw [z]; obtain ⟨cell, y, -⟩ := hb8; exact (Array.getElem?_eq_some_iff.mp y).1))]
      exact if_neg (show ¬ q = b from fun z => Nat.not_lt.mpr hq (by rw [z]; exact hbl))
