/-! PURE: a HEAD on both sides, ahead of its SUM -/
def LM : List Int32 := [117, 115, 116, 97, 114, 32, 32, 0]
def UM : List Int32 := [117, 115, 116, 97, 114, 0, 48, 48]
def mgF (x : Nat) (f : Nat → Int32) : Nat → Int32 := if x = 3 then fa f 257 8 (fun j => LM.getD j 0) else if x = 0 then f else fa f 257 8 (fun j => UM.getD j 0)
def bhC (x : Nat) (kd : Int32) (k sz : Nat) : Nat → Int32 := mgF x (upd (fa (fa (fun _ => 0) 100 7 (oD k 7)) 124 11 (oD sz 11)) 156 kd)
def bhM (x : Nat) (kd : Int32) (k sz : Nat) : Nat → Int32 := mgF x (upd (fa (fa (fa (fa (fa (fun _ => 0) 100 8 (oF k 8)) 108 8 (oF 0 8)) 116 8 (oF 0 8)) 124 12 (oF sz 12)) 136 12 (oF 0 12)) 156 kd)
def nuC (x : Nat) (V : Int64) (p n : Nat) (f : Nat → Int32) : Nat → Int32 := if fitB V (nI n) = true then fa f p (n - 1) (oD V.toInt.toNat (n - 1)) else if x = 3 then fa f p n (xB V.toInt n) else fa f p (n - 1) (oD 0 (n - 1))
def nuM (x : Nat) (V : Int64) (p n : Nat) (f : Nat → Int32) : Nat → Int32 := if fitB V (nI n) = true then fa f p n (oF V.toInt.toNat n) else if x = 3 then fa f p n (xB V.toInt n) else fa f p n (oF 0 n)
/-- where the NAME is parted: 0 where it isn't -/
def spN (x ns : Nat) (sp : Int32) : Nat := if 100 < ns ∧ (x = 1 ∨ x = 2) ∧ ¬ sp ≤ 0 then sp.toInt.toNat else 0
def nsF (ns s : Nat) (nb : Nat → Int32) (f : Nat → Int32) : Nat → Int32 := if s = 0 then fa f 0 (min ns 100) nb else fa (fa f 345 s nb) 0 (ns - (s + 1)) (fun k => nb (s + 1 + k))
def lkF (ls : Nat) (lb : Nat → Int32) (f : Nat → Int32) : Nat → Int32 := fa f 157 (min ls 100) lb
theorem mgF_n {x j : Nat} {f : Nat → Int32} (h : ¬ (257 ≤ j ∧ j < 265)) : mgF x f j = f j := by
  unfold mgF
  by_cases c : x = 3
  · rw [if_pos c, fa_n (by omega)]
  · rw [if_neg c]
    by_cases c2 : x = 0
    · rw [if_pos c2]
    · rw [if_neg c2, fa_n (by omega)]
theorem mgF_c {x j : Nat} {f g : Nat → Int32} (h : 257 ≤ j ∧ j < 265) (e : f j = g j) : mgF x f j = mgF x g j := by
  unfold mgF
  by_cases c : x = 3
  · rw [if_pos c, if_pos c, fa_i (by omega), fa_i (by omega)]
  · rw [if_neg c, if_neg c]
    by_cases c2 : x = 0
    · rw [if_pos c2, if_pos c2]
      exact e
    · rw [if_neg c2, if_neg c2, fa_i (by omega), fa_i (by omega)]
theorem nuC_n {x p n j : Nat} {V : Int64} {f : Nat → Int32} (h : ¬ (p ≤ j ∧ j < p + n)) : nuC x V p n f j = f j := by
  unfold nuC
  repeat' split
  all_goals rw [fa_n (by omega)]
theorem nuM_n {x p n j : Nat} {V : Int64} {f : Nat → Int32} (h : ¬ (p ≤ j ∧ j < p + n)) : nuM x V p n f j = f j := by
  unfold nuM
  repeat' split
  all_goals rw [fa_n (by omega)]
theorem oF_e {k n : Nat} {f g : Nat → Int32} {p j : Nat} (h : p ≤ j ∧ j < p + n) (hz : f (p + (n - 1)) = 0) : fa f p (n - 1) (oD k (n - 1)) j = fa g p n (oF k n) j := by
  rw [fa_i (u := p) (n := n) h]
  unfold oF
  by_cases c : j - p = n - 1
  · rw [if_pos c, fa_n (by omega), show j = p + (n - 1) by omega]
    exact hz
  · rw [if_neg c, fa_i (by omega)]
theorem nu_e {x p n j : Nat} {V : Int64} {f g : Nat → Int32} (h : p ≤ j ∧ j < p + n) (hz : f (p + (n - 1)) = 0) : nuC x V p n f j = nuM x V p n g j := by
  unfold nuC nuM
  by_cases c : fitB V (nI n) = true
  · rw [if_pos c, if_pos c]
    exact oF_e h hz
  · rw [if_neg c, if_neg c]
    by_cases c2 : x = 3
    · rw [if_pos c2, if_pos c2, fa_i h, fa_i h]
    · rw [if_neg c2, if_neg c2]
      exact oF_e h hz
theorem nsF_n {ns s j : Nat} {nb f : Nat → Int32} (hs : s ≤ 155) (hn : s = 0 ∨ ns - (s + 1) ≤ 100) (h : ¬ j < 100) (h2 : ¬ (345 ≤ j ∧ j < 500)) : nsF ns s nb f j = f j := by
  unfold nsF
  by_cases c : s = 0
  · rw [if_pos c, fa_n (by omega)]
  · rw [if_neg c, fa_n (by omega), fa_n (by omega)]
theorem nsF_c {ns s j : Nat} {nb f g : Nat → Int32} (e : f j = g j) : nsF ns s nb f j = nsF ns s nb g j := by
  unfold nsF
  by_cases c : s = 0
  · rw [if_pos c, if_pos c]
    by_cases q : 0 ≤ j ∧ j < 0 + min ns 100
    · rw [fa_i q, fa_i q]
    · rw [fa_n q, fa_n q]
      exact e
  · rw [if_neg c, if_neg c]
    by_cases q : 0 ≤ j ∧ j < 0 + (ns - (s + 1))
    · rw [fa_i q, fa_i q]
    · rw [fa_n q, fa_n q]
      by_cases q2 : 345 ≤ j ∧ j < 345 + s
      · rw [fa_i q2, fa_i q2]
      · rw [fa_n q2, fa_n q2]
        exact e
theorem lkF_n {ls j : Nat} {lb f : Nat → Int32} (h : ¬ (157 ≤ j ∧ j < 257)) : lkF ls lb f j = f j := by
  unfold lkF
  rw [fa_n (by omega)]
theorem lkF_c {ls j : Nat} {lb f g : Nat → Int32} (e : f j = g j) : lkF ls lb f j = lkF ls lb g j := by
  unfold lkF
  by_cases q : 157 ≤ j ∧ j < 157 + min ls 100
  · rw [fa_i q, fa_i q]
  · rw [fa_n q, fa_n q]
    exact e
theorem bhC_0 {x j : Nat} {kd : Int32} {k sz : Nat} (h : ¬ (100 ≤ j ∧ j < 107)) (h2 : ¬ (124 ≤ j ∧ j < 135)) (h3 : j ≠ 156) (h4 : ¬ (257 ≤ j ∧ j < 265)) : bhC x kd k sz j = 0 := by
  unfold bhC
  rw [mgF_n h4, updI_n _ _ h3, fa_n (by omega), fa_n (by omega)]
/-- the whole HEAD, ahead of its SUM -/
def hdC (x : Nat) (kd : Int32) (k sz : Nat) (U Gd T : Int64) (ns s : Nat) (nb : Nat → Int32) (ls : Nat) (lb : Nat → Int32) : Nat → Int32 := nuC x T 136 12 (nuC x Gd 116 8 (nuC x U 108 8 (lkF ls lb (nsF ns s nb (bhC x kd k sz)))))
def hdM (x : Nat) (kd : Int32) (k sz : Nat) (U Gd T : Int64) (ns s : Nat) (nb : Nat → Int32) (ls : Nat) (lb : Nat → Int32) : Nat → Int32 := lkF ls lb (nsF ns s nb (nuM x T 136 12 (nuM x Gd 116 8 (nuM x U 108 8 (bhM x kd k sz)))))
theorem hd_e {x : Nat} {kd : Int32} {k sz : Nat} {U Gd T : Int64} {ns s : Nat} {nb : Nat → Int32} {ls : Nat} {lb : Nat → Int32} (hs : s ≤ 155) (hn : s = 0 ∨ ns - (s + 1) ≤ 100) : ∀ j, j < 512 → ¬ (148 ≤ j ∧ j < 156) → hdC x kd k sz U Gd T ns s nb ls lb j = hdM x kd k sz U Gd T ns s nb ls lb j := by
  intro j hj hq
  unfold hdC hdM
  by_cases c1 : j < 100
  · rw [nuC_n (by omega), nuC_n (by omega), nuC_n (by omega), lkF_n (by omega), lkF_n (by omega)]
    refine nsF_c ?_
    rw [bhC_0 (by omega) (by omega) (by omega) (by omega), nuM_n (by omega), nuM_n (by omega), nuM_n (by omega)]
    unfold bhM
    rw [mgF_n (by omega), updI_n _ _ (by omega), fa_n (by omega), fa_n (by omega), fa_n (by omega), fa_n (by omega), fa_n (by omega)]
  by_cases c2 : j < 108
  · rw [nuC_n (by omega), nuC_n (by omega), nuC_n (by omega), lkF_n (by omega), lkF_n (by omega), nsF_n hs hn (by omega) (by omega), nsF_n hs hn (by omega) (by omega), nuM_n (by omega), nuM_n (by omega), nuM_n (by omega)]
    unfold bhC bhM
    rw [mgF_n (by omega), mgF_n (by omega), updI_n _ _ (by omega), updI_n _ _ (by omega), fa_n (u := 124) (n := 11) (by omega), fa_n (u := 136) (by omega), fa_n (u := 124) (by omega), fa_n (u := 116) (by omega), fa_n (u := 108) (by omega)]
    exact oF_e (k := k) (n := 8) (p := 100) (by omega) rfl
  by_cases c3 : j < 116
  · rw [nuC_n (by omega), nuC_n (by omega), lkF_n (by omega), nsF_n hs hn (by omega) (by omega), nuM_n (by omega), nuM_n (by omega)]
    refine nu_e (by omega) ?_
    rw [lkF_n (by omega), nsF_n hs hn (by omega) (by omega), bhC_0 (by omega) (by omega) (by omega) (by omega)]
  by_cases c4 : j < 124
  · rw [nuC_n (by omega), lkF_n (by omega), nsF_n hs hn (by omega) (by omega), nuM_n (by omega)]
    refine nu_e (by omega) ?_
    rw [nuC_n (by omega), lkF_n (by omega), nsF_n hs hn (by omega) (by omega), bhC_0 (by omega) (by omega) (by omega) (by omega)]
  by_cases c5 : j < 136
  · rw [nuC_n (by omega), nuC_n (by omega), nuC_n (by omega), lkF_n (by omega), lkF_n (by omega), nsF_n hs hn (by omega) (by omega), nsF_n hs hn (by omega) (by omega), nuM_n (by omega), nuM_n (by omega), nuM_n (by omega)]
    unfold bhC bhM
    rw [mgF_n (by omega), mgF_n (by omega), updI_n _ _ (by omega), updI_n _ _ (by omega), fa_n (f := fa (fa (fa (fa (fun _ => 0) 100 8 (oF k 8)) 108 8 (oF 0 8)) 116 8 (oF 0 8)) 124 12 (oF sz 12)) (by omega)]
    exact oF_e (k := sz) (n := 12) (p := 124) (by omega) (by rw [fa_n (by omega)])
  by_cases c6 : j < 148
  · rw [lkF_n (by omega), nsF_n hs hn (by omega) (by omega)]
    refine nu_e (by omega) ?_
    rw [nuC_n (by omega), nuC_n (by omega), lkF_n (by omega), nsF_n hs hn (by omega) (by omega), bhC_0 (by omega) (by omega) (by omega) (by omega)]
  have r0 : ∀ y, 156 ≤ y → y ≠ 156 → bhM x kd k sz y = mgF x (fun _ => 0) y := fun y y1 y2 => by
    unfold bhM
    by_cases q : 257 ≤ y ∧ y < 265
    · refine mgF_c q ?_
      rw [updI_n _ _ y2, fa_n (by omega), fa_n (by omega), fa_n (by omega), fa_n (by omega), fa_n (by omega)]
    · rw [mgF_n q, mgF_n q, updI_n _ _ y2, fa_n (by omega), fa_n (by omega), fa_n (by omega), fa_n (by omega), fa_n (by omega)]
  have r1 : ∀ y, 156 ≤ y → y ≠ 156 → bhC x kd k sz y = mgF x (fun _ => 0) y := fun y y1 y2 => by
    unfold bhC
    by_cases q : 257 ≤ y ∧ y < 265
    · refine mgF_c q ?_
      rw [updI_n _ _ y2, fa_n (by omega), fa_n (by omega)]
    · rw [mgF_n q, mgF_n q, updI_n _ _ y2, fa_n (by omega), fa_n (by omega)]
  rw [nuC_n (by omega), nuC_n (by omega), nuC_n (by omega)]
  refine lkF_c ?_
  refine nsF_c ?_
  rw [nuM_n (by omega), nuM_n (by omega), nuM_n (by omega)]
  by_cases c7 : j = 156
  · subst c7
    unfold bhC bhM
    rw [mgF_n (by omega), mgF_n (by omega), updI_s, updI_s]
  · rw [r0 j (by omega) c7, r1 j (by omega) c7]
/-! PURE: the class writes a HEAD -/
section HC
variable {v : Nat → Nat} {G G' : gH} {a cap u wv : Nat} {g : Nat → Int32} {x1 x2 : Value}
/-- the two magics, below a -/
def Mgs (v : Nat → Nat) (a : Nat) (G : gH) : Prop := (v 2 < a ∧ G.1 (v 2) = some (.int, false, 8, gTI LM)) ∧ v 3 < a ∧ G.1 (v 3) = some (.int, false, 8, gTI UM)
theorem Mgs.fr (h : Mgs v a G) (k : Fr2 G G' a) : Mgs v a G' := by
  obtain ⟨⟨h1, h2⟩, h3, h4⟩ := h
  exact ⟨⟨h1, by rw [k.2.1 _ (by omega)]; exact h2⟩, h3, by rw [k.2.1 _ (by omega)]; exact h4⟩
theorem nI_lit {x y : Nat} (hx : x < 2 ^ 31) (hy : y < 2 ^ 31) (h : x ≠ y) : ¬ nI x = nI y := fun q => h ((nI_eq hx hy).mp q)
theorem k_beginHead {x k sz : Nat} {kd : Int32} (hne : wv ≠ a) (o : G.2.1 wv = some (2, [.ref a, x1, x2])) (rb : RowB G a cap u g) (mg : Mgs v a G) (hx : x < 4) (hk : k < 2 ^ 63) (hsz : sz < 2 ^ 31) (hkd : kd &&& 255 = kd) (hu : u + 512 ≤ cap) (hu2 : u < 2 ^ 29) : ∃ G', fX2_beginHead v G wv kd (lN k) (nI sz) (nI x) = some (nI u, G') ∧ Fr2 G G' a ∧ RowB G' a cap (u + 512) (fa g u 512 (bhC x kd k sz)) := by
  obtain ⟨G1, e1, r1, b1⟩ := rb_zeros (v := v) (n := 512) rb hu
  have o1 := r1.ob hne o
  obtain ⟨G2, e2, r2, b2⟩ := k_setField (v := v) (p := u + 100) (n := 8) (k := k) hne o1 b1 hk (by omega) (by decide) (by decide) (by omega)
  rw [show (8 : Nat) - 1 = 7 from rfl, fa_fa (by decide)] at b2
  have o2 := r2.ob hne o1
  obtain ⟨G3, e3, r3, b3⟩ := k_setField (v := v) (p := u + 124) (n := 12) (k := sz) hne o2 b2 (by omega) (by omega) (by decide) (by decide) (by omega)
  rw [show (12 : Nat) - 1 = 11 from rfl, fa_fa (by decide)] at b3
  have o3 := r3.ob hne o2
  obtain ⟨G4, e4, r4, b4⟩ := rb_set (v := v) b3 (i := u + 156) (by omega) kd
  rw [hkd, fa_upd (by decide)] at b4
  have o4 := r4.ob hne o3
  have mg4 := (((mg.fr r1).fr r2).fr r3).fr r4
  have f4 := ((r1.tr r2).tr r3).tr r4
  have head : fX2_beginHead v G wv kd (lN k) (nI sz) (nI x) = if nI x = (3 : Int32) then (Option.bind (fX7_setAll v G4 a (nI u + (257 : Int32)) (v 2)) fun x20 => some (nI u, x20)) else if nI x = 0 then some (nI u, G4) else (Option.bind (fX7_setAll v G4 a (nI u + (257 : Int32)) (v 3)) fun x17 => some (nI u, x17)) := by
    unfold fX2_beginHead
    rw [gOb_at o, Option.bind_some, gR_at o (k := 0) (x := a) rfl, Option.bind_some, rb_count rb, Option.bind_some, Option.bind_some, show (512 : Int32) = nI 512 from rfl, e1, Option.bind_some, show nI u + (100 : Int32) = nI (u + 100) from nI_add u 100, show (8 : Int32) = nI 8 from rfl, e2, Option.bind_some, show nI u + (124 : Int32) = nI (u + 124) from nI_add u 124, show (12 : Int32) = nI 12 from rfl, nI_l hsz, e3, Option.bind_some, gR_at o3 (k := 0) (x := a) rfl, Option.bind_some, show nI u + (156 : Int32) = nI (u + 156) from nI_add u 156, e4, Option.bind_some, gR_at o4 (k := 0) (x := a) rfl, Option.bind_some, Option.bind_some]
  rw [head, show nI u + (257 : Int32) = nI (u + 257) from nI_add u 257]
  unfold bhC mgF
  by_cases c3 : x = 3
  · subst c3
    obtain ⟨G5, e5, r5, b5⟩ := rb_setAll (v := v) (s := v 2) (p := u + 257) (l := LM) b4 mg4.1.1 mg4.1.2 (by decide) (by decide) (by omega) (by show u + 257 + 8 ≤ _; omega)
    rw [show LM.length = 8 from rfl, fa_fa (by decide)] at b5
    rw [if_pos rfl, if_pos (show nI 3 = (3 : Int32) from rfl), e5, Option.bind_some]
    exact ⟨G5, rfl, f4.tr r5, b5⟩
  · rw [if_neg c3, if_neg (show ¬ nI x = (3 : Int32) from nI_lit (y := 3) (by omega) (by decide) c3)]
    by_cases c0 : x = 0
    · subst c0
      rw [if_pos rfl, if_pos (show nI 0 = (0 : Int32) from rfl)]
      exact ⟨G4, rfl, f4, b4⟩
    · obtain ⟨G5, e5, r5, b5⟩ := rb_setAll (v := v) (s := v 3) (p := u + 257) (l := UM) b4 mg4.2.1 mg4.2.2 (by decide) (by decide) (by omega) (by show u + 257 + 8 ≤ _; omega)
      rw [show UM.length = 8 from rfl, fa_fa (by decide)] at b5
      rw [if_neg c0, if_neg (show ¬ nI x = (0 : Int32) from nI_lit (y := 0) (by omega) (by decide) c0), e5, Option.bind_some]
      exact ⟨G5, rfl, f4.tr r5, b5⟩
theorem fit_nat {V : Int64} {n : Int32} (h : fitB V n = true) : ∃ k, k < 2 ^ 63 ∧ V = lN k ∧ V.toInt.toNat = k := by
  have q := (of_decide_eq_true h).1
  have h0 : 0 ≤ V.toInt := by
    have := Int64.le_iff_toInt_le.mp (Int64.not_lt.mp q)
    exact this
  have hr := i64_range V
  refine ⟨V.toInt.toNat, by omega, i64_of (by omega) (by omega), rfl⟩
theorem k_setNumber {x p n L : Nat} {V : Int64} {f : Nat → Int32} (hne : wv ≠ a) (o : G.2.1 wv = some (2, [.ref a, x1, x2])) (rb : RowB G a cap (u + L) (fa g u L f)) (hx : x < 4) (hn : 1 ≤ n) (hn2 : n ≤ 12) (hp : p + n ≤ L) (hu2 : u + L < 2 ^ 29) : ∃ G', fX2_setNumber v G wv (nI (u + p)) (nI n) V (nI x) = some G' ∧ Fr2 G G' a ∧ RowB G' a cap (u + L) (fa g u L (nuC x V p n f)) := by
  unfold fX2_setNumber nuC
  rw [gOb_at o, Option.bind_some, fits_c, Option.bind_some]
  cases c : fitB V (nI n)
  · rw [bI_f, if_pos rfl, if_neg (show ¬ (false = true) by decide)]
    by_cases c3 : x = 3
    · subst c3
      obtain ⟨G1, e1, r1, b1⟩ := k_setBy256 (v := v) (p := u + p) (n := n) (V := V) hne o rb (by omega) (by omega) hn (by omega)
      rw [fa_fa hp] at b1
      rw [if_pos (show nI 3 = (3 : Int32) from rfl), if_pos rfl, e1, Option.bind_some]
      exact ⟨G1, rfl, r1, b1⟩
    · obtain ⟨G1, e1, r1, b1⟩ := k_setField (v := v) (p := u + p) (n := n) (k := 0) hne o rb (by decide) (by omega) (by omega) hn (by omega)
      rw [fa_fa (by omega)] at b1
      rw [if_neg (show ¬ nI x = (3 : Int32) from nI_lit (y := 3) (by omega) (by decide) c3), if_neg c3, show (0 : Int64) = lN 0 from rfl, e1, Option.bind_some]
      exact ⟨G1, rfl, r1, b1⟩
  · obtain ⟨k, hk, hV, hk2⟩ := fit_nat c
    obtain ⟨G1, e1, r1, b1⟩ := k_setField (v := v) (p := u + p) (n := n) (k := k) hne o rb hk (by omega) (by omega) hn (by omega)
    rw [fa_fa (by omega)] at b1
    rw [bI_t, if_neg (by decide), if_pos rfl, hk2]
    rw [← hV] at e1
    rw [e1, Option.bind_some]
    exact ⟨G1, rfl, r1, b1⟩
theorem k_setNames {ea nr lr x ns ls : Nat} {nb lb f : Nat → Int32} {sp : Int32} {rest : List Value} (hne : wv ≠ a) (hea : ea ≠ a) (hnr : nr ≠ a) (hlr : lr ≠ a) (o : G.2.1 wv = some (2, [.ref a, x1, x2])) (oe : G.2.1 ea = some (3, .ref nr :: .ref lr :: rest)) (rb : RowB G a cap (u + 512) (fa g u 512 f)) (rn : RowB G nr 400 ns nb) (rl : RowB G lr 400 ls lb) (hsp : SpR nb ns sp) (hx : x < 4) (hu2 : u < 2 ^ 29) : ∃ G', fX2_setNames v G wv (nI u) ea (nI x) = some G' ∧ Fr2 G G' a ∧ RowB G' a cap (u + 512) (fa g u 512 (lkF ls lb (nsF ns (spN x ns sp) nb f))) := by
  have hns := rn.le
  have hls := rl.le
  -- the LINK
  have f117 : ∀ {G1 : gH} {f1 : Nat → Int32}, Fr2 G G1 a → RowB G1 a cap (u + 512) (fa g u 512 f1) → ∃ G', jX2_setNames_117 v G1 wv (nI u) ea = some G' ∧ Fr2 G G' a ∧ RowB G' a cap (u + 512) (fa g u 512 (lkF ls lb f1)) := by
    intro G1 f1 fr b1
    have o1 := fr.ob hne o
    have oe1 := fr.ob hea oe
    have rl1 := rl.fr fr hlr
    obtain ⟨G2, e2, r2, b2⟩ := rb_setPart (v := v) (p := u + 157) (j := 0) (e := min ls 100) hlr b1 rl1 (by omega) (by omega) (by omega) (by omega)
    rw [Nat.sub_zero, fa_fa (by omega)] at b2
    refine ⟨G2, ?_, fr.tr r2, ?_⟩
    · unfold jX2_setNames_117
      have em : (if (100 : Int32) < nI ls then (100 : Int32) else nI ls) = nI (min ls 100) := by
        by_cases z : ls ≤ 100
        · rw [if_neg (fun q => (i100 (by omega)).mp q z), Nat.min_eq_left z]
        · rw [if_pos ((i100 (by omega)).mpr z), Nat.min_eq_right (by omega)]
          rfl
      rw [gR_at o1 (k := 0) (x := a) rfl, Option.bind_some, gR_at oe1 (k := 1) (x := lr) rfl, Option.bind_some, Option.bind_some, rb_count rl1, Option.bind_some, Option.bind_some, em, show nI u + (157 : Int32) = nI (u + 157) from nI_add u 157, show (0 : Int32) = nI 0 from rfl, e2, Option.bind_some]
    · refine b2.c (fun j hj => ?_)
      have z : (fun k => lb (0 + k)) = lb := by
        funext k
        rw [Nat.zero_add]
      rw [z]
      rfl
  have f46 : ∀ z : Int32, (z = if 100 < ns ∧ (x = 1 ∨ x = 2) then sp else -1) → ∃ G', jX2_setNames_46 v G wv (nI u) ea (nI ns) z = some G' ∧ Fr2 G G' a ∧ RowB G' a cap (u + 512) (fa g u 512 (lkF ls lb (nsF ns (spN x ns sp) nb f))) := by
    intro z hz
    unfold jX2_setNames_46
    by_cases c : 100 < ns ∧ (x = 1 ∨ x = 2) ∧ ¬ sp ≤ 0
    · have hz2 : z = sp := by rw [hz, if_pos ⟨c.1, c.2.1⟩]
      subst hz2
      obtain ⟨s, hs, hS⟩ : ∃ s, z = nI s ∧ SpK nb ns s := by
        rcases hsp with ⟨h1, -⟩ | ⟨s, h1, h2, -⟩
        · exact absurd (by rw [h1]; decide) c.2.2
        · exact ⟨s, h1, h2⟩
      obtain ⟨q1, q2, q3, q4, q5⟩ := hS
      have es : spN x ns z = s := by
        unfold spN
        rw [if_pos c, hs, nI_toInt (by omega)]
        rfl
      obtain ⟨G1, e1, r1, b1⟩ := rb_setPart (v := v) (p := u + 345) (j := 0) (e := s) hnr rb rn (by omega) (by omega) (by omega) (by omega)
      rw [Nat.sub_zero, fa_fa (by omega)] at b1
      have o1 := r1.ob hne o
      have oe1 := r1.ob hea oe
      have rn1 := rn.fr r1 hnr
      obtain ⟨G2, e2, r2, b2⟩ := rb_setPart (v := v) (p := u + 0) (j := s + 1) (e := ns) hnr b1 rn1 (by omega) (by omega) (by omega) (by omega)
      rw [fa_fa (by omega)] at b2
      obtain ⟨G', e', r', b'⟩ := f117 (r1.tr r2) b2
      refine ⟨G', ?_, r', b'.c (fun j hj => ?_)⟩
      · rw [if_neg c.2.2, gR_at o (k := 0) (x := a) rfl, Option.bind_some, gR_at oe (k := 0) (x := nr) rfl, Option.bind_some, show nI u + (345 : Int32) = nI (u + 345) from nI_add u 345, hs, show (0 : Int32) = nI 0 from rfl, e1, Option.bind_some, gR_at o1 (k := 0) (x := a) rfl, Option.bind_some, gR_at oe1 (k := 0) (x := nr) rfl, Option.bind_some, nI_add, nI_1, e2, Option.bind_some]
        exact e'
      · have z : (fun k => nb (0 + k)) = nb := by
          funext k
          rw [Nat.zero_add]
        rw [es, z]
        unfold nsF
        rw [if_neg (show ¬ s = 0 by omega)]
    · have es : spN x ns sp = 0 := by
        unfold spN
        rw [if_neg c]
      have hz0 : z ≤ 0 := by
        rw [hz]
        by_cases c2 : 100 < ns ∧ (x = 1 ∨ x = 2)
        · rw [if_pos c2]
          by_cases c3 : sp ≤ 0
          · exact c3
          · exact absurd ⟨c2.1, c2.2, c3⟩ c
        · rw [if_neg c2]
          decide
      obtain ⟨G1, e1, r1, b1⟩ := rb_setPart (v := v) (p := u + 0) (j := 0) (e := min ns 100) hnr rb rn (by omega) (by omega) (by omega) (by omega)
      rw [Nat.sub_zero, fa_fa (by omega)] at b1
      obtain ⟨G', e', r', b'⟩ := f117 r1 b1
      refine ⟨G', ?_, r', b'.c (fun j hj => ?_)⟩
      · have em : (if (100 : Int32) < nI ns then (100 : Int32) else nI ns) = nI (min ns 100) := by
          by_cases z : ns ≤ 100
          · rw [if_neg (fun q => (i100 (by omega)).mp q z), Nat.min_eq_left z]
          · rw [if_pos ((i100 (by omega)).mpr z), Nat.min_eq_right (by omega)]
            rfl
        rw [if_pos hz0, gR_at o (k := 0) (x := a) rfl, Option.bind_some, gR_at oe (k := 0) (x := nr) rfl, Option.bind_some, Option.bind_some, em, show (0 : Int32) = nI 0 from rfl, nI_add, e1, Option.bind_some]
        exact e'
      · have z : (fun k => nb (0 + k)) = nb := by
          funext k
          rw [Nat.zero_add]
        rw [es, z]
        unfold nsF
        rw [if_pos rfl]
  unfold fX2_setNames jX2_setNames_30 jX2_setNames_26 jX2_setNames_31
  rw [gOb_at o, Option.bind_some, gR_at oe (k := 0) (x := nr) rfl, Option.bind_some, rb_count rn, Option.bind_some]
  obtain ⟨r0, er, hr0⟩ : ∃ r, fX3_split v G ea = some r ∧ r = sp := by
    obtain ⟨f0, k1, k2⟩ := rn
    obtain ⟨r, er, hr⟩ := k_splitR (v := v) oe rfl k1 hns.1
    exact ⟨r, er, (hr.c (fun j hj => k2 j hj)).u hsp⟩
  subst hr0
  by_cases c : ns ≤ 100
  · rw [if_pos ((j100 (by omega)).mpr c), if_pos rfl]
    exact f46 _ (by rw [if_neg (by omega)])
  · rw [if_neg (fun q => c ((j100 (by omega)).mp q)), if_neg (show ¬ (1 : Int32) = 0 by decide), er, Option.bind_some, if_pos rfl]
    by_cases c1 : x = 1
    · subst c1
      rw [if_pos (show nI 1 = (1 : Int32) from rfl)]
      exact f46 _ (by rw [if_pos ⟨by omega, Or.inl rfl⟩])
    · rw [if_neg (show ¬ nI x = (1 : Int32) from nI_lit (y := 1) (by omega) (by decide) c1)]
      by_cases c2 : x = 2
      · subst c2
        rw [if_pos (show nI 2 = (2 : Int32) from rfl)]
        exact f46 _ (by rw [if_pos ⟨by omega, Or.inr rfl⟩])
      · rw [if_neg (show ¬ nI x = (2 : Int32) from nI_lit (y := 2) (by omega) (by decide) c2)]
        exact f46 _ (by rw [if_neg (by omega)])
end HC
/-! PURE: the reference writes a HEAD -/
theorem mg8 {f : Nat → Int32} (l : List Int32) : (upd (upd (upd (upd (upd (upd (upd (upd f 257 (l.getD 0 0)) 258 (l.getD 1 0)) 259 (l.getD 2 0)) 260 (l.getD 3 0)) 261 (l.getD 4 0)) 262 (l.getD 5 0)) 263 (l.getD 6 0)) 264 (l.getD 7 0)) = fa f 257 8 (fun j => l.getD j 0) := by
  funext j
  by_cases q : 257 ≤ j ∧ j < 257 + 8
  · rw [fa_i q]
    rcases (show j = 257 ∨ j = 258 ∨ j = 259 ∨ j = 260 ∨ j = 261 ∨ j = 262 ∨ j = 263 ∨ j = 264 by omega) with rfl | rfl | rfl | rfl | rfl | rfl | rfl | rfl
    · rw [updI_n _ _ (by decide), updI_n _ _ (by decide), updI_n _ _ (by decide), updI_n _ _ (by decide), updI_n _ _ (by decide), updI_n _ _ (by decide), updI_n _ _ (by decide), updI_s]
    · rw [updI_n _ _ (by decide), updI_n _ _ (by decide), updI_n _ _ (by decide), updI_n _ _ (by decide), updI_n _ _ (by decide), updI_n _ _ (by decide), updI_s]
    · rw [updI_n _ _ (by decide), updI_n _ _ (by decide), updI_n _ _ (by decide), updI_n _ _ (by decide), updI_n _ _ (by decide), updI_s]
    · rw [updI_n _ _ (by decide), updI_n _ _ (by decide), updI_n _ _ (by decide), updI_n _ _ (by decide), updI_s]
    · rw [updI_n _ _ (by decide), updI_n _ _ (by decide), updI_n _ _ (by decide), updI_s]
    · rw [updI_n _ _ (by decide), updI_n _ _ (by decide), updI_s]
    · rw [updI_n _ _ (by decide), updI_s]
    · rw [updI_s]
  · rw [fa_n q, updI_n _ _ (by omega), updI_n _ _ (by omega), updI_n _ _ (by omega), updI_n _ _ (by omega), updI_n _ _ (by omega), updI_n _ _ (by omega), updI_n _ _ (by omega), updI_n _ _ (by omega)]
def WK (G0 : gH) (m : Nat) (I : Nat → Int32) (J : Int64) (A : Nat → Nat → Int32) (B : Nat → Nat → Int64) (d kn w : Nat) (g h : Nat → Int32) (G : gH) : Prop :=
  ∃ I' A', MAt G m I' J A' B ∧ (∀ k, k ≠ 14 → k ≠ 16 → I' k = I k) ∧ (∀ c, c ≠ 11 → c ≠ 12 → A' c = A c) ∧ I' 14 = nI d ∧ I' 16 = nI w ∧ Fw G0 G m 23 ∧ (∀ j, j < kn → A' 11 j = g j) ∧ ∀ j, j < w → A' 12 j = h j
section HM
variable {v : Nat → Nat} {G0 G G' : gH} {m : Nat} {I : Nat → Int32} {J : Int64} {A : Nat → Nat → Int32} {B : Nat → Nat → Int64} {d w : Nat} {g h : Nat → Int32}
theorem WK.wr {kn : Nat} (q : WK G0 m I J A B d kn w g h G) : WR G0 m I J A B d w G := by
  obtain ⟨I', A', h1, h2, h3, h4, h5, h6, h7, h8⟩ := q
  exact ⟨I', A', h1, h2, h3, h4, h5, h6⟩
theorem WK.st {kn : Nat} (q : WK G0 m I J A B d kn w g h G) (x : Int32) (hk : kn < 120000) : Ok (WK G0 m I J A B d (kn + 1) w (upd g kn x) h) (gSt G .int (m + 11) (nI kn) (.int x)) := by
  obtain ⟨I', A', h1, h2, h3, h4, h5, h6, h7, h8⟩ := q
  obtain ⟨G', e, k1, k2⟩ := h1.st 11 (ty := .int) (j := kn) x ⟨by decide, by decide, rfl⟩ rfl hk
  refine ⟨G', e, I', _, k1, h2, fun c c1 c2 => ?_, h4, h5, h6.tr k2, fun z hz => ?_, fun z hz => ?_⟩
  · rw [← h3 c c1 c2]
    funext q
    exact upA_n (fun z => c1 z.1)
  · by_cases e1 : z = kn
    · subst e1
      rw [upA_s, updI_s]
    · rw [upA_n (fun q => e1 q.2), updI_n _ _ e1]
      exact h7 z (by omega)
  · rw [upA_n (by omega)]
    exact h8 z hz
theorem WK.inc {kn : Nat} (q : WK G0 m I J A B d kn w g h G) {x : Int32} (hx : x = nI kn) : Ok (WG G0 m I J A B kn w g h) (gPut G m 10 14 (.int x)) := by
  obtain ⟨I', A', h1, h2, h3, h4, h5, h6, h7, h8⟩ := q
  obtain ⟨G', e, k1, k2⟩ := h1.pi 14 x rfl
  refine ⟨G', e, _, A', k1, fun k k14 k16 => ?_, h3, ?_, ?_, h6.tr k2, h7, h8⟩
  · rw [updI_n _ _ k14]; exact h2 k k14 k16
  · rw [updI_s, hx]
  · rw [updI_n _ _ (by decide)]; exact h5
theorem g_head {x k sz : Nat} {kd : Int32} (q : WG G0 m I J A B d w g h G) (hx : x < 4) (hk : k < 2 ^ 63) (hsz : sz < 2 ^ 63) (hd : d + 512 ≤ 120000) : Ok (fun r => r.1 = nI d ∧ WG G0 m I J A B (d + 512) w (fa g d 512 (bhM x kd k sz)) h r.2) (fX11_head v G m (nI x) kd (lN k) (lN sz)) := by
  have rest : ∀ (G : gH), WK G0 m I J A B d (d + 512) w (fa g d 512 (fun _ => 0)) h G → ∀ f, Ok (fun r => r.1 = nI d ∧ WG G0 m I J A B (d + 512) w (fa g d 512 (bhM x kd k sz)) h r.2) (lX11_head_9 v (f + 1) G m (nI x) kd (lN k) (lN sz) (nI d) (nI 512)) := by
    intro G q f
    show Ok _ (bX11_head_9 v (lX11_head_9 v f) G m (nI x) kd (lN k) (lN sz) (nI d) (nI 512))
    unfold bX11_head_9
    refine Ok.i (fun _ => ?_) (fun z => absurd (by decide) z)
    refine Ok.e q.wr.i14 ?_
    refine Ok.b (q.inc (nI_add d 512)) (fun G1 q1 => ?_)
    rw [show nI d + (100 : Int32) = nI (d + 100) from nI_add d 100, show nI d + (108 : Int32) = nI (d + 108) from nI_add d 108, show nI d + (116 : Int32) = nI (d + 116) from nI_add d 116, show nI d + (124 : Int32) = nI (d + 124) from nI_add d 124, show nI d + (136 : Int32) = nI (d + 136) from nI_add d 136, show (8 : Int32) = nI 8 from rfl, show (12 : Int32) = nI 12 from rfl, show (0 : Int64) = lN 0 from rfl]
    refine Ok.b (g_octal q1 (p := d + 100) (n := 8) hk (by decide) (by decide) (by omega) hd) (fun G2 q2 => ?_)
    rw [fa_fa (by decide)] at q2
    refine Ok.b (g_octal q2 (p := d + 108) (k := 0) (n := 8) (by decide) (by decide) (by decide) (by omega) hd) (fun G3 q3 => ?_)
    rw [fa_fa (by decide)] at q3
    refine Ok.b (g_octal q3 (p := d + 116) (k := 0) (n := 8) (by decide) (by decide) (by decide) (by omega) hd) (fun G4 q4 => ?_)
    rw [fa_fa (by decide)] at q4
    refine Ok.b (g_octal q4 (p := d + 124) (n := 12) hsz (by decide) (by decide) (by omega) hd) (fun G5 q5 => ?_)
    rw [fa_fa (by decide)] at q5
    refine Ok.b (g_octal q5 (p := d + 136) (k := 0) (n := 12) (by decide) (by decide) (by decide) (by omega) hd) (fun G6 q6 => ?_)
    rw [fa_fa (by decide)] at q6
    refine Ok.e (q6.wr.r 13 11 rfl (by decide)) ?_
    refine Ok.b (q6.st (j := d + 156) kd (nI_add d 156) (by omega) hd) (fun G7 q7 => ?_)
    rw [fa_upd (by decide)] at q7
    unfold bhM mgF
    by_cases c0 : x = 0
    · subst c0
      refine Ok.i (fun _ => ?_) (fun z => absurd (by decide) z)
      rw [if_neg (by decide), if_pos rfl]
      exact Ok.s ⟨rfl, q7⟩
    · refine Ok.i (fun z => absurd z (nI_nle (by omega) (by omega))) (fun _ => ?_)
      refine Ok.e (q7.wr.r 13 11 rfl (by decide)) ?_
      refine Ok.b (q7.st (j := d + 257) 117 (nI_add d 257) (by omega) hd) (fun G8 q8 => ?_)
      rw [fa_upd (by decide)] at q8
      refine Ok.e (q8.wr.r 13 11 rfl (by decide)) ?_
      refine Ok.b (q8.st (j := d + 258) 115 (nI_add d 258) (by omega) hd) (fun G9 q9 => ?_)
      rw [fa_upd (by decide)] at q9
      refine Ok.e (q9.wr.r 13 11 rfl (by decide)) ?_
      refine Ok.b (q9.st (j := d + 259) 116 (nI_add d 259) (by omega) hd) (fun G10 q10 => ?_)
      rw [fa_upd (by decide)] at q10
      refine Ok.e (q10.wr.r 13 11 rfl (by decide)) ?_
      refine Ok.b (q10.st (j := d + 260) 97 (nI_add d 260) (by omega) hd) (fun G11 q11 => ?_)
      rw [fa_upd (by decide)] at q11
      refine Ok.e (q11.wr.r 13 11 rfl (by decide)) ?_
      refine Ok.b (q11.st (j := d + 261) 114 (nI_add d 261) (by omega) hd) (fun G12 q12 => ?_)
      rw [fa_upd (by decide)] at q12
      refine Ok.e (q12.wr.r 13 11 rfl (by decide)) ?_
      by_cases c3 : x = 3
      · subst c3
        refine Ok.i (fun _ => ?_) (fun z => absurd rfl z)
        unfold jX11_head_210 jX11_head_233
        refine Ok.b (q12.st (j := d + 262) 32 (nI_add d 262) (by omega) hd) (fun G13 q13 => ?_)
        rw [fa_upd (by decide)] at q13
        refine Ok.e (q13.wr.r 13 11 rfl (by decide)) ?_
        refine Ok.i (fun _ => ?_) (fun z => absurd rfl z)
        refine Ok.b (q13.st (j := d + 263) 32 (nI_add d 263) (by omega) hd) (fun G14 q14 => ?_)
        rw [fa_upd (by decide)] at q14
        refine Ok.e (q14.wr.r 13 11 rfl (by decide)) ?_
        refine Ok.i (fun _ => ?_) (fun z => absurd rfl z)
        refine Ok.b (q14.st (j := d + 264) 0 (nI_add d 264) (by omega) hd) (fun G15 q15 => ?_)
        rw [fa_upd (by decide)] at q15
        rw [if_pos rfl, ← mg8 LM]
        exact Ok.s ⟨rfl, q15⟩
      · have n3 : ¬ nI x = (3 : Int32) := nI_lit (y := 3) (by omega) (by decide) c3
        refine Ok.i (fun z => absurd z n3) (fun _ => ?_)
        unfold jX11_head_210 jX11_head_233
        refine Ok.b (q12.st (j := d + 262) 0 (nI_add d 262) (by omega) hd) (fun G13 q13 => ?_)
        rw [fa_upd (by decide)] at q13
        refine Ok.e (q13.wr.r 13 11 rfl (by decide)) ?_
        refine Ok.i (fun z => absurd z n3) (fun _ => ?_)
        refine Ok.b (q13.st (j := d + 263) 48 (nI_add d 263) (by omega) hd) (fun G14 q14 => ?_)
        rw [fa_upd (by decide)] at q14
        refine Ok.e (q14.wr.r 13 11 rfl (by decide)) ?_
        refine Ok.i (fun z => absurd z n3) (fun _ => ?_)
        refine Ok.b (q14.st (j := d + 264) 48 (nI_add d 264) (by omega) hd) (fun G15 q15 => ?_)
        rw [fa_upd (by decide)] at q15
        rw [if_neg c3, if_neg c0, ← mg8 UM]
        exact Ok.s ⟨rfl, q15⟩
  have lp : ∀ (e c f : Nat) (G : gH), c + e = 512 → e < f → WK G0 m I J A B d (d + c) w (fa g d c (fun _ => 0)) h G → Ok (fun r => r.1 = nI d ∧ WG G0 m I J A B (d + 512) w (fa g d 512 (bhM x kd k sz)) h r.2) (lX11_head_9 v f G m (nI x) kd (lN k) (lN sz) (nI d) (nI c)) := by
    intro e
    induction e with
    | zero =>
      intro c f G hc hf q
      obtain ⟨f, rfl⟩ : ∃ f', f = f' + 1 := ⟨f - 1, by omega⟩
      obtain rfl : c = 512 := by omega
      exact rest G q f
    | succ e ih =>
      intro c f G hc hf q
      obtain ⟨f, rfl⟩ : ∃ f', f = f' + 1 := ⟨f - 1, by omega⟩
      show Ok _ (bX11_head_9 v (lX11_head_9 v f) G m (nI x) kd (lN k) (lN sz) (nI d) (nI c))
      unfold bX11_head_9
      refine Ok.i (fun z => absurd z (show ¬ (512 : Int32) ≤ nI c from nI_ge (b := 512) (by omega) (by decide))) (fun _ => ?_)
      refine Ok.e (q.wr.r 13 11 rfl (by decide)) ?_
      rw [nI_add]
      refine Ok.b (q.st 0 (by omega)) (fun G1 q1 => ?_)
      refine Ok.e rfl ?_
      rw [nI_1]
      refine ih (c + 1) f G1 (by omega) (by omega) ?_
      obtain ⟨I', A', h1, h2, h3, h4, h5, h6, h7, h8⟩ := q1
      refine ⟨I', A', h1, h2, h3, h4, h5, h6, fun j hj => ?_, h8⟩
      rw [h7 j (by omega)]
      by_cases z : j = d + c
      · subst z
        rw [updI_s, fa_i (by omega)]
      · rw [updI_n _ _ z]
        by_cases y : d ≤ j ∧ j < d + c
        · rw [fa_i y, fa_i (by omega)]
        · rw [fa_n y, fa_n (by omega)]
  unfold fX11_head
  refine Ok.e q.wr.ob ?_
  refine Ok.e q.wr.i14 ?_
  refine lp 512 0 gFu G (by omega) (by unfold gFu; omega) ?_
  obtain ⟨I', A', h1, h2, h3, h4, h5, h6, h7, h8⟩ := q
  exact ⟨I', A', h1, h2, h3, h4, h5, h6, fun j hj => by rw [fa_n (by omega)]; exact h7 j (by omega), h8⟩
theorem g_number {x p n L u : Nat} {V : Int64} {f : Nat → Int32} (q : WG G0 m I J A B d w (fa g u L f) h G) (hx : x < 4) (hn : 2 ≤ n) (hn2 : n ≤ 12) (hp : p + n ≤ L) (hu : u + L ≤ d) (hd : d ≤ 120000) : Ok (WG G0 m I J A B d w (fa g u L (nuM x V p n f)) h) (fX11_number_ v G m (nI (u + p)) (nI n) V (nI x)) := by
  unfold fX11_number_ nuM
  refine Ok.e q.wr.ob ?_
  rw [fits_e]
  refine Ok.e rfl ?_
  cases c : fitB V (nI n)
  · refine Ok.i (fun _ => ?_) (fun z => absurd rfl z)
    rw [if_neg (show ¬ (false = true) by decide)]
    by_cases c3 : x = 3
    · subst c3
      refine Ok.i (fun _ => ?_) (fun z => absurd rfl z)
      rw [if_pos rfl]
      refine Ok.b (g_by256 q (p := u + p) (n := n) (V := V) (by omega) hn2 (by omega) hd) (fun G1 q1 => ?_)
      rw [fa_fa hp] at q1
      exact Ok.s q1
    · refine Ok.i (fun z => absurd z (nI_lit (y := 3) (by omega) (by decide) c3)) (fun _ => ?_)
      rw [if_neg c3, show (0 : Int64) = lN 0 from rfl]
      refine Ok.b (g_octal q (p := u + p) (k := 0) (n := n) (by decide) hn (by omega) (by omega) hd) (fun G1 q1 => ?_)
      rw [fa_fa hp] at q1
      exact Ok.s q1
  · obtain ⟨k, hk, hV, hk2⟩ := fit_nat c
    refine Ok.i (fun z => absurd z (by decide)) (fun _ => ?_)
    rw [if_pos rfl, hk2]
    have := g_octal (v := v) q (p := u + p) (k := k) (n := n) hk hn (by omega) (by omega) hd
    rw [← hV] at this
    refine Ok.b this (fun G1 q1 => ?_)
    rw [fa_fa hp] at q1
    exact Ok.s q1
end HM
