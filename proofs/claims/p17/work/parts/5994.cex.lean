/-! PURE: what the class's own methods do to THE TAPE and THE DRAFT -/
theorem Fr2.ob {G G' : gH} {a q : Nat} {e : gOE} (h : Fr2 G G' a) (hq : q ≠ a) (k : G.2.1 q = some e) : G'.2.1 q = some e := by rw [h.2.2 q hq]; exact k
section VA
variable {v : Nat → Nat} {G : gH} {b n : Nat} {O : Nat → Nat → Int32} {P : Nat → Nat → Int64}
theorem CAt.rt (h : CAt G b O P) {k t : Nat} (hk : rkB k = true) (ht : O k 1 = nI t) (hb : t < 2 ^ 31) : RowAt G (b + k) (rc k) t (O (k + 1)) := by
  obtain ⟨u, h1, h2, h3⟩ := h.row k hk
  have : u = t := (nI_eq (by have := rc_lt k; omega) hb).mp (by rw [← h1, ht])
  subst this
  exact h3
theorem CAt.tf (h : CAt G b O P) (hn : O 0 3 = nI n) : G.2.1 b = some (9, tfF b n) := by
  have := h.o 0 (by decide) (e := (9, [.ref (b + 1), .ref (b + 3), .ref (b + 5), .int (O 0 3), .ref (b + 6), .ref (b + 11)])) rfl
  rw [hn] at this
  exact this
theorem CAt.t0 (h : CAt G b O P) : G.2.1 b = some (9, [.ref (b + 1), .ref (b + 3), .ref (b + 5), .int (O 0 3), .ref (b + 6), .ref (b + 11)]) := h.o 0 (by decide) rfl
theorem CAt.dr (h : CAt G b O P) (hn : O 0 3 = nI n) (hn8 : n ≤ 8) : fX10_draft v G b = some (b + (266 + 6 * n)) := by
  rw [c_draft (h.tf hn) (h.a 5 (by decide) rfl) hn8, Nat.add_assoc]
theorem CAt.en (h : CAt G b O P) {i : Nat} (hi : i < 9) : G.2.1 (b + (266 + 6 * i)) = some (3, [.ref (b + (266 + 6 * i) + 1), .ref (b + (266 + 6 * i) + 3), .ref (b + (266 + 6 * i) + 5), .int (O (266 + 6 * i) 3), .int (O (266 + 6 * i) 4), .int (O (266 + 6 * i) 5)]) := h.o (266 + 6 * i) (by omega) (cOb_e (ekI hi))
/-- sixteen bytes more -/
def cF (x y z w : Int32) (f : Nat → Int32) (t : Nat) : Nat → Int32 := cW w (cW z (cW y (cW x f t) (t + 4)) (t + 4 + 4)) (t + 4 + 4 + 4)
theorem k_feed (h : CAt G b O P) {t : Nat} (ht : O 1 1 = nI t) (ht2 : t ≤ 512) (x y z w : Int32) :
    (512 < t + 16 → fX10_feed v G b x y z w = some (-3, G)) ∧
    (t + 16 ≤ 512 → ∃ G', fX10_feed v G b x y z w = some (nI (t + 16), G') ∧ CAt G' b (uR O 1 (t + 16) (cF x y z w (O 2) t)) P ∧ Fw G G' b 320) := by
  have hr : RowAt G (b + 1) 512 t (O 2) := h.rt rk1 ht (by omega)
  have o := h.t0
  refine ⟨fun c => ?_, fun c => ?_⟩
  · unfold fX10_feed
    rw [gOb_at o, Option.bind_some, gR_at o (k := 0) (x := b + 1) rfl, Option.bind_some, r_room hr, Option.bind_some, if_neg (show ¬ (16 : Int32) ≤ nI (512 - t) from nI_ge (b := 16) (by omega) (by decide))]
  · obtain ⟨G1, e1, f1, h1⟩ := r_addWord (v := v) hr (by omega) x
    obtain ⟨G2, e2, f2, h2⟩ := r_addWord (v := v) h1 (by omega) y
    obtain ⟨G3, e3, f3, h3⟩ := r_addWord (v := v) h2 (by omega) z
    obtain ⟨G4, e4, f4, h4⟩ := r_addWord (v := v) h3 (by omega) w
    have o1 := f1.ob (q := b) (by omega) o
    have o2 := f2.ob (q := b) (by omega) o1
    have o3 := f3.ob (q := b) (by omega) o2
    have o4 := f4.ob (q := b) (by omega) o3
    refine ⟨G4, ?_, h.up rk1 (((f1.tr f2).tr f3).tr f4) h4, (((f1.tr f2).tr f3).tr f4).fw (by omega) (by omega)⟩
    unfold fX10_feed
    rw [gOb_at o, Option.bind_some, gR_at o (k := 0) (x := b + 1) rfl, Option.bind_some, r_room hr, Option.bind_some, if_pos (show (16 : Int32) ≤ nI (512 - t) from nI_le (a := 16) (by omega) (by omega)), Option.bind_some, e1, Option.bind_some, gR_at o1 (k := 0) (x := b + 1) rfl, Option.bind_some, e2, Option.bind_some, gR_at o2 (k := 0) (x := b + 1) rfl, Option.bind_some, e3, Option.bind_some, gR_at o3 (k := 0) (x := b + 1) rfl, Option.bind_some, e4, Option.bind_some, gR_at o4 (k := 0) (x := b + 1) rfl, Option.bind_some, r_count h4, Option.bind_some]
theorem k_cut (h : CAt G b O P) {t : Nat} (ht : O 1 1 = nI t) (ht2 : t ≤ 512) (x : Int32) : ∃ G' u, fX10_cut v G b x = some (kAns t x, G') ∧ CAt G' b (uR O 1 u (O 2)) P ∧ (nI u = if 0 ≤ x ∧ x ≤ nI t then x else nI t) ∧ u ≤ 512 ∧ Fw G G' b 320 := by
  have hr : RowAt G (b + 1) 512 t (O 2) := h.rt rk1 ht (by omega)
  have o := h.t0
  obtain ⟨G', u', e', f', k1, k2⟩ := c_keepFirst (v := v) hr x
  refine ⟨G', u', ?_, h.up rk1 f' k1, k2, k1.2.2.1, f'.fw (by omega) (by omega)⟩
  unfold fX10_cut
  rw [gOb_at o, Option.bind_some, gR_at o (k := 0) (x := b + 1) rfl, Option.bind_some, e', Option.bind_some]
theorem r_become {a a2 cap cap2 u u2 t : Nat} {f f2 : Nat → Int32} (hne : a2 ≠ a) (h : RowAt G a cap u f) (h2 : RowAt G a2 cap2 u2 f2) (h1 : 1 ≤ t) (ht : t ≤ cap) : ∃ G', fX7_become v G a a2 0 (nI t) = some (1, G') ∧ Fr2 G G' a ∧ RowAt G' a cap (0 + (t - 0)) (fa f 0 (t - 0) (fun k => b8 (rAt u2 f2 (nI (0 + k))))) := by
  have hc := h.2.2.2
  obtain ⟨k3, k4⟩ := h.sized (n := 0) (Nat.zero_le _)
  obtain ⟨G', e', f', k'⟩ := r_addPart (v := v) hne k3 (h2.fr k4 hne) (j := 0) (e := t) (by omega) (by omega) (by omega)
  refine ⟨G', ?_, k4.tr f', k'⟩
  have e0 : nI t - 0 = nI t := by
    have := pk_sub (a := t) (b := 0) (by omega)
    exact this
  unfold fX7_become
  rw [h.ob, Option.bind_some, e0, if_neg (show ¬ nI t < (1 : Int32) from fun q => absurd (show nI 1 ≤ nI t from nI_le h1 (by omega)) (Int32.not_le.mpr q)), h.ce, Option.bind_some, h.le, Option.bind_some, if_pos (nI_le ht hc), show (Value.int (0 : Int32)) = .int (nI 0) from rfl, h.pt 0, Option.bind_some, show (0 : Int32) = nI 0 from rfl, e', Option.bind_some, gZ_1, Option.bind_some]
theorem k_name (h : CAt G b O P) {t : Nat} (hn : O 0 3 = nI n) (hn8 : n ≤ 8) (ht : O 1 1 = nI t) (ht2 : t ≤ 512) (y : Int32) :
    (¬ (0 < t ∧ t ≤ 400 ∧ ∀ j, j < t → O 2 j &&& 255 ≠ 0) → fX10_name v G b y = some (-2, G)) ∧
    ((0 < t ∧ t ≤ 400 ∧ ∀ j, j < t → O 2 j &&& 255 ≠ 0) → ∃ G' k f, fX10_name v G b y = some (nI t, G') ∧ k = (if y = 0 then 266 + 6 * n + 1 else 266 + 6 * n + 3) ∧ CAt G' b (uR (uR O k t f) 1 0 (O 2)) P ∧ Fw G G' b 320 ∧ f = fa (O (k + 1)) 0 t (fun j => b8 (rAt t (O 2) (nI (0 + j))))) := by
  have hr : RowAt G (b + 1) 512 t (O 2) := h.rt rk1 ht (by omega)
  have o := h.t0
  obtain ⟨r, er, r1, r2, r3, r4⟩ := r_find (v := v) hr 0 (j := 0) (e := t) (by omega) (by omega)
  have hz : (nI t ≤ nI r) ↔ ∀ j, j < t → O 2 j &&& 255 ≠ 0 := by
    constructor
    · intro q j hj
      have : t ≤ r := (nI_leI (by omega) (by omega)).mp q
      have := r3 j (by omega) (by omega)
      rw [rAt_in hj (by omega)] at this
      exact this
    · intro q
      rcases Nat.lt_or_ge r t with z | z
      · have := r4 z
        rw [rAt_in z (by omega)] at this
        exact absurd this (q r z)
      · exact nI_le z (by omega)
  have e400 : ((400 : Int32) < nI t) ↔ 400 < t := by
    constructor
    · intro q
      rcases Nat.lt_or_ge 400 t with z | z
      · exact z
      · exact absurd (show nI t ≤ 400 from nI_le (b := 400) z (by decide)) (Int32.not_le.mpr q)
    · intro q
      exact Int32.not_le.mp (nI_ge (a := 400) q (by omega))
  have e0 : (nI t = 0) ↔ t = 0 := nI_eq (b := 0) (by omega) (by decide)
  have er' : fX7_find v G (b + 1) 0 0 (nI t) = some (nI r) := er
  refine ⟨fun q => ?_, fun q => ?_⟩
  · unfold fX10_name
    rw [gOb_at o, Option.bind_some, gR_at o (k := 0) (x := b + 1) rfl, Option.bind_some, r_count hr, Option.bind_some]
    by_cases c0 : t = 0
    · rw [if_pos (e0.mpr c0)]
    · rw [if_neg (fun z => c0 (e0.mp z))]
      by_cases c1 : 400 < t
      · rw [if_pos (e400.mpr c1)]
      · rw [if_neg (fun z => c1 (e400.mp z)), Option.bind_some, er', Option.bind_some, if_neg (fun z => q ⟨by omega, by omega, hz.mp z⟩)]
  · obtain ⟨q1, q2, q3⟩ := q
    have hen := h.en (i := n) (by omega)
    have key : ∀ k, (k = 266 + 6 * n + 1 ∨ k = 266 + 6 * n + 3) → ∃ G' f, jX10_name_57 v G b (nI t) (b + k) = some (nI t, G') ∧ CAt G' b (uR (uR O k t f) 1 0 (O 2)) P ∧ Fw G G' b 320 ∧ f = fa (O (k + 1)) 0 t (fun j => b8 (rAt t (O 2) (nI (0 + j)))) := by
      intro k hk
      have hkr : rkB k = true := by
        rcases hk with rfl | rfl
        · exact rkE1 (ekI (by omega))
        · exact rkE3 (ekI (by omega))
      obtain ⟨u, -, -, hrk⟩ := h.row k hkr
      have hrc : rc k = 400 := by
        unfold rc
        rw [if_neg (by omega), if_neg (by omega), if_neg (by omega), if_neg (by omega)]
      rw [hrc] at hrk
      obtain ⟨G1, e1, f1, k1⟩ := r_become (v := v) (by omega) hrk hr q1 q2
      rw [show 0 + (t - 0) = t by omega, show t - 0 = t by omega] at k1
      have g1 := h.up hkr f1 (by rw [hrc]; exact k1)
      have hr1 : RowAt G1 (b + 1) 512 t (O 2) := hr.fr f1 (by omega)
      obtain ⟨G2, e2, f2, k2⟩ := r_empty (v := v) hr1
      have o1 := g1.t0
      have eb : uR O k t (fa (O (k + 1)) 0 t (fun j => b8 (rAt t (O 2) (nI (0 + j))))) 2 = O 2 := uR_n (by omega) (by omega)
      have g2 := g1.up rk1 f2 k2
      refine ⟨G2, _, ?_, g2, (f1.fw (by omega) (by omega)).tr (f2.fw (by omega) (by omega)), rfl⟩
      unfold jX10_name_57
      rw [gR_at o (k := 0) (x := b + 1) rfl, Option.bind_some, e1, Option.bind_some, gR_at o1 (k := 0) (x := b + 1) rfl, Option.bind_some, e2, Option.bind_some]
    unfold fX10_name
    rw [gOb_at o, Option.bind_some, gR_at o (k := 0) (x := b + 1) rfl, Option.bind_some, r_count hr, Option.bind_some, if_neg (fun z => by have := e0.mp z; omega), if_neg (fun z => by have := e400.mp z; omega), Option.bind_some, er', Option.bind_some, if_pos (hz.mpr q3), h.dr hn hn8, Option.bind_some, Option.bind_some, gR_at hen (k := 0) (x := b + (266 + 6 * n) + 1) rfl, gR_at hen (k := 1) (x := b + (266 + 6 * n) + 3) rfl, Option.bind_some, Option.bind_some]
    by_cases hy : y = 0
    · obtain ⟨G', f, e', k1, k2, k3⟩ := key (266 + 6 * n + 1) (Or.inl rfl)
      rw [if_pos hy]
      exact ⟨G', 266 + 6 * n + 1, f, e', by rw [if_pos hy], k1, k2, k3⟩
    · obtain ⟨G', f, e', k1, k2, k3⟩ := key (266 + 6 * n + 3) (Or.inr rfl)
      rw [if_neg hy]
      exact ⟨G', 266 + 6 * n + 3, f, e', by rw [if_neg hy], k1, k2, k3⟩
theorem k_number (h : CAt G b O P) (hs : Sta v b G) (hn : O 0 3 = nI n) (hn8 : n ≤ 8) (a : Int32) (x : Int64) : ∃ G' P', fX10_number v G b a x = some (if nOk a x then 1 else -1, G') ∧ CAt G' b O P' ∧ (∀ q, q ≠ 266 + 6 * n + 5 → P' q = P q) ∧ (P' (266 + 6 * n + 5) = if nOk a x then vp_updL (P (266 + 6 * n + 5)) a.toInt.toNat x else P (266 + 6 * n + 5)) ∧ Fw G G' b 320 := by
  have no : ¬ (¬ a < 0 ∧ a ≤ 4 ∧ ¬ x < nLo a ∧ x ≤ nHi a) → nOk a x = false := fun q => decide_eq_false q
  have yes : (¬ a < 0 ∧ a ≤ 4 ∧ ¬ x < nLo a ∧ x ≤ nHi a) → nOk a x = true := fun q => decide_eq_true q
  have o := h.t0
  unfold fX10_number
  rw [gOb_at o, Option.bind_some]
  by_cases h0 : a < 0
  · rw [if_pos h0, no (fun q => q.1 h0)]
    exact ⟨G, P, rfl, h, fun _ _ => rfl, rfl, Fw.rf⟩
  · rw [if_neg h0]
    by_cases h4 : (4 : Int32) < a
    · rw [if_pos h4, no (fun q => absurd q.2.1 (Int32.not_le.mpr h4))]
      exact ⟨G, P, rfl, h, fun _ _ => rfl, rfl, Fw.rf⟩
    · rw [if_neg h4]
      have h4' : a ≤ 4 := Int32.not_lt.mp h4
      obtain ⟨j, hj, rfl⟩ := nI_of h0
      have hj4 : j ≤ 4 := (nI_leI (b := 4) hj (by decide)).mp h4'
      have l0 : gLdJ G (v 0) (nI j) = some (nLo (nI j)) := ld_lng hs.1.2 (by omega) (by decide) (by
        rcases (show j = 0 ∨ j = 1 ∨ j = 2 ∨ j = 3 ∨ j = 4 by omega) with rfl | rfl | rfl | rfl | rfl <;> rfl)
      have l1 : gLdJ G (v 1) (nI j) = some (nHi (nI j)) := ld_lng hs.2.1.2 (by omega) (by decide) (by
        rcases (show j = 0 ∨ j = 1 ∨ j = 2 ∨ j = 3 ∨ j = 4 by omega) with rfl | rfl | rfl | rfl | rfl <;> rfl)
      rw [l0, Option.bind_some]
      by_cases h1 : x < nLo (nI j)
      · rw [if_pos h1, no (fun q => q.2.2.1 h1)]
        exact ⟨G, P, rfl, h, fun _ _ => rfl, rfl, Fw.rf⟩
      · rw [if_neg h1, l1, Option.bind_some]
        by_cases h2 : x ≤ nHi (nI j)
        · obtain ⟨G', e', k1, k2⟩ := h.sl (266 + 6 * n + 5) 5 (j := j) x (by omega) (fun p => cAr_e (ekI (by omega))) (fun p => cOb_n (by omega)) (by omega) (by decide)
          rw [if_pos h2, yes ⟨h0, h4', h1, h2⟩, h.dr hn hn8, Option.bind_some, gR_at (h.en (i := n) (by omega)) (k := 2) (x := b + (266 + 6 * n) + 5) rfl, Option.bind_some, show b + (266 + 6 * n) + 5 = b + (266 + 6 * n + 5) by omega, e', Option.bind_some]
          refine ⟨G', _, rfl, k1, fun q hq => uP_n hq, ?_, k2.wd (by omega) (by omega)⟩
          rw [uP_s, nI_toInt hj]
          rfl
        · rw [if_neg h2, no (fun q => h2 q.2.2.2)]
          exact ⟨G, P, rfl, h, fun _ _ => rfl, rfl, Fw.rf⟩
/-- an ENTRY is emptied -/
def cE5 (g : Nat → Int64) : Nat → Int64 := vp_updL (vp_updL (vp_updL (vp_updL (vp_updL g 0 420) 1 0) 2 0) 3 0) 4 0
theorem k_empty (h : CAt G b O P) {i : Nat} (hi : i < 9) : ∃ G', fX3_empty v G (b + (266 + 6 * i)) = some G' ∧ CAt G' b (uR (uR O (266 + 6 * i + 1) 0 (O (266 + 6 * i + 1 + 1))) (266 + 6 * i + 3) 0 (O (266 + 6 * i + 3 + 1))) (uP (uP (uP (uP (uP P (266 + 6 * i + 5) 0 420) (266 + 6 * i + 5) 1 0) (266 + 6 * i + 5) 2 0) (266 + 6 * i + 5) 3 0) (266 + 6 * i + 5) 4 0) ∧ Fw G G' b 320 := by
  have hk1 := rkE1 (ekI hi)
  have hk3 := rkE3 (ekI hi)
  obtain ⟨e, he⟩ : ∃ e, e = 266 + 6 * i := ⟨_, rfl⟩
  have hen := h.en hi
  rw [← he] at hk1 hk3 hen ⊢
  obtain ⟨u1, -, -, r1⟩ := h.row (e + 1) hk1
  obtain ⟨G1, e1, f1, k1⟩ := r_empty (v := v) r1
  have g1 := h.up hk1 f1 k1
  obtain ⟨u3, -, -, r3⟩ := h.row (e + 3) hk3
  have r31 : RowAt G1 (b + (e + 3)) (rc (e + 3)) u3 (O (e + 3 + 1)) := r3.fr f1 (by omega)
  obtain ⟨G2, e2, f2, k2⟩ := r_empty (v := v) r31
  have g2 := g1.up hk3 f2 k2
  have sl : ∀ {G : gH} {O' : Nat → Nat → Int32} {P' : Nat → Nat → Int64} (j : Nat) (x : Int64), j < 5 → CAt G b O' P' → ∃ G', gSt G .long (b + e + 5) (nI j) (.long x) = some G' ∧ CAt G' b O' (uP P' (e + 5) j x) ∧ Fw G G' (b + (e + 5)) 1 := by
    intro G O' P' j x hj g
    have := g.sl (e + 5) 5 (j := j) x (by omega) (fun p => by rw [he]; exact cAr_e (ekI hi)) (fun p => cOb_n (by omega)) hj (by decide)
    exact this
  obtain ⟨G3, e3, g3, f3⟩ := sl 0 420 (by decide) g2
  obtain ⟨G4, e4, g4, f4⟩ := sl 1 0 (by decide) g3
  obtain ⟨G5, e5, g5, f5⟩ := sl 2 0 (by decide) g4
  obtain ⟨G6, e6, g6, f6⟩ := sl 3 0 (by decide) g5
  obtain ⟨G7, e7, g7, f7⟩ := sl 4 0 (by decide) g6
  have h1 := f1.ob (q := b + e) (by omega) hen
  have h2 := f2.ob (q := b + e) (by omega) h1
  have h3 := f3.ob (q := b + e) (by omega) h2
  have h4 := f4.ob (q := b + e) (by omega) h3
  have h5 := f5.ob (q := b + e) (by omega) h4
  have h6 := f6.ob (q := b + e) (by omega) h5
  refine ⟨G7, ?_, g7, ((((((f1.fw (by omega) (by omega)).tr (f2.fw (by omega) (by omega))).tr (f3.wd (by omega) (by omega))).tr (f4.wd (by omega) (by omega))).tr (f5.wd (by omega) (by omega))).tr (f6.wd (by omega) (by omega))).tr (f7.wd (by omega) (by omega))⟩
  unfold fX3_empty
  rw [gOb_at hen, Option.bind_some, gR_at hen (k := 0) (x := b + e + 1) rfl, Option.bind_some, show b + e + 1 = b + (e + 1) from rfl, e1, Option.bind_some, gR_at h1 (k := 1) (x := b + e + 3) rfl, Option.bind_some, show b + e + 3 = b + (e + 3) from rfl, e2, Option.bind_some, gR_at h2 (k := 2) (x := b + e + 5) rfl, Option.bind_some, show (0 : Int32) = nI 0 from rfl, e3, Option.bind_some, gR_at h3 (k := 2) (x := b + e + 5) rfl, Option.bind_some, show (1 : Int32) = nI 1 from rfl, e4, Option.bind_some, gR_at h4 (k := 2) (x := b + e + 5) rfl, Option.bind_some, show (2 : Int32) = nI 2 from rfl, e5, Option.bind_some, gR_at h5 (k := 2) (x := b + e + 5) rfl, Option.bind_some, show (3 : Int32) = nI 3 from rfl, e6, Option.bind_some, gR_at h6 (k := 2) (x := b + e + 5) rfl, Option.bind_some, show (4 : Int32) = nI 4 from rfl, e7, Option.bind_some]
end VA
