/-! PURE: a TIME's text, and a ROW, on both sides -/
def tmW (T : Int) (N : Nat) : Nat := if 0 ≤ T then T.toNat else if N = 0 then (-T).toNat else (-T - 1).toNat
def tmR (T : Int) (N : Nat) : Nat := if 0 ≤ T then N else if N = 0 then 0 else 1000000000 - N
def tmN (T : Int) : Nat := if 0 ≤ T then 0 else 1
def tF (g : Nat → Int32) (n0 W wd r t : Nat) : Nat → Int32 := frF (fa (if n0 = 0 then g else upd g 0 45) n0 wd (dd W wd)) (n0 + wd) r t
def tL (n0 wd r t : Nat) : Nat := n0 + wd + frL r t
theorem frF_c {g h : Nat → Int32} {u r t : Nat} (e : ∀ j, j < u → g j = h j) : ∀ j, j < u + frL r t → frF g u r t j = frF h u r t j := by
  intro j hj
  unfold frF frL at *
  by_cases z : r = 0
  · rw [if_pos z] at hj ⊢
    rw [if_pos z]
    exact e j hj
  · rw [if_neg z] at hj ⊢
    rw [if_neg z]
    by_cases q : u + 1 ≤ j ∧ j < u + 1 + t
    · rw [fa_i q, fa_i q]
    · rw [fa_n q, fa_n q]
      by_cases q2 : j = u
      · subst q2
        rw [updI_s, updI_s]
      · rw [updI_n _ _ q2, updI_n _ _ q2]
        exact e j (by omega)
theorem tF_c {g h : Nat → Int32} {n0 W wd r t : Nat} (hn : n0 ≤ 1) : ∀ j, j < tL n0 wd r t → tF g n0 W wd r t j = tF h n0 W wd r t j := by
  refine frF_c (fun j hj => ?_)
  by_cases q : n0 ≤ j ∧ j < n0 + wd
  · rw [fa_i q, fa_i q]
  · rw [fa_n q, fa_n q]
    have z : n0 ≠ 0 := by omega
    obtain rfl : j = 0 := by omega
    rw [if_neg z, if_neg z, updI_s, updI_s]
theorem i64_of {x : Int64} {k : Nat} (h : x.toInt = (k : Int)) (hk : k < 2 ^ 63) : x = lN k := Int64.toInt_inj.mp (by rw [h, lN_int hk])
theorem i64_neg {x : Int64} (h : -9223372036854775807 ≤ x.toInt) : (-x).toInt = -x.toInt := by
  have := i64_range x
  rw [Int64.toInt_neg]
  apply Int.bmod_eq_of_le <;> omega
theorem i64_add1 {x : Int64} (h : x.toInt < 9223372036854775807) : (x + 1).toInt = x.toInt + 1 := by
  have := i64_range x
  rw [Int64.toInt_add, show (1 : Int64).toInt = 1 from rfl]
  apply Int.bmod_eq_of_le <;> omega
theorem i64_sub1 {x : Int64} (h : -9223372036854775808 < x.toInt) : (x - 1).toInt = x.toInt - 1 := by
  have := i64_range x
  rw [Int64.toInt_sub, show (1 : Int64).toInt = 1 from rfl]
  apply Int.bmod_eq_of_le <;> omega
section TB2
variable {v : Nat → Nat} {G0 G G' : gH} {m : Nat} {I : Nat → Int32} {J : Int64} {A : Nat → Nat → Int32} {B : Nat → Nat → Int64} {d w a cap u wv : Nat} {g h : Nat → Int32} {x1 x2 : Value}
theorem tm_lt {T : Int} {N : Nat} (h1 : -1099511627776 ≤ T) (h2 : T ≤ 1125899906842624) (hN : N ≤ 999999999) : tmW T N < 10 ^ 18 ∧ tmR T N < 1000000000 := by
  have e : (10 : Nat) ^ 18 = 1000000000000000000 := by decide
  rw [e]
  unfold tmW tmR
  by_cases c : 0 ≤ T
  · rw [if_pos c, if_pos c]; omega
  · rw [if_neg c, if_neg c]
    by_cases z : N = 0
    · rw [if_pos z, if_pos z]; omega
    · rw [if_neg z, if_neg z]; omega
theorem k_makeTime {T : Int64} {N wd t : Nat} (hne : wv ≠ a) (o : G.2.1 wv = some (2, [x1, x2, .ref a])) (rb : RowB G a 40 u g) (h1 : -1099511627776 ≤ T.toInt) (h2 : T.toInt ≤ 1125899906842624) (hN : N ≤ 999999999) (hw : DW (tmW T.toInt N) wd) (ht : FT (tmR T.toInt N) t) : ∃ G', fX2_makeTime v G wv T (nI N) = some G' ∧ Fr2 G G' a ∧ RowB G' a 40 (tL (tmN T.toInt) wd (tmR T.toInt N) t) (tF g (tmN T.toInt) (tmW T.toInt N) wd (tmR T.toInt N) t) := by
  obtain ⟨hW, hR⟩ := tm_lt h1 h2 hN
  have w18 := hw.2.1
  have t9 := ht.1
  have hfl : frL (tmR T.toInt N) t ≤ 10 := by
    unfold frL
    split <;> omega
  obtain ⟨G1, e1, r1, k1⟩ := rb_empty (v := v) rb
  have o1 := r1.ob hne o
  have f68 : ∀ (G2 : gH) (n0 : Nat) (g2 : Nat → Int32) (y5 : Int32), n0 ≤ 1 → Fr2 G G2 a → G2.2.1 wv = some (2, [x1, x2, .ref a]) → RowB G2 a 40 n0 g2 → (if y5 = 0 then nI N else 1000000000 - nI N) = nI (tmR T.toInt N) → ∃ G', jX2_makeTime_68 v G2 wv (nI N) y5 (lN (tmW T.toInt N)) = some G' ∧ Fr2 G G' a ∧ RowB G' a 40 (n0 + wd + frL (tmR T.toInt N) t) (frF (fa g2 n0 wd (dd (tmW T.toInt N) wd)) (n0 + wd) (tmR T.toInt N) t) := by
    intro G2 n0 g2 y5 hn0 fr o2 k2 hy
    obtain ⟨G3, e3, r3, k3⟩ := rb_addDecimal (v := v) k2 hW hw (by omega)
    have o3 := r3.ob hne o2
    obtain ⟨G4, e4, r4, k4⟩ := k_frac (v := v) hne o3 k3 hR ht (by omega)
    refine ⟨G4, ?_, (fr.tr r3).tr r4, k4⟩
    unfold jX2_makeTime_68 jX2_makeTime_91
    rw [gR_at o2 (k := 2) (x := a) rfl, Option.bind_some, e3, Option.bind_some]
    by_cases z : y5 = 0
    · rw [if_pos z] at hy ⊢
      rw [hy, e4, Option.bind_some]
    · rw [if_neg z] at hy ⊢
      rw [hy, e4, Option.bind_some]
  have f45 : ∀ (y4 y5 : Int32) (n0 : Nat), (y4 = 0 ∧ n0 = 0 ∨ y4 = 1 ∧ n0 = 1) → (if y5 = 0 then nI N else 1000000000 - nI N) = nI (tmR T.toInt N) → ∃ G', jX2_makeTime_45 v G wv (nI N) y4 y5 (lN (tmW T.toInt N)) = some G' ∧ Fr2 G G' a ∧ RowB G' a 40 (tL n0 wd (tmR T.toInt N) t) (tF g n0 (tmW T.toInt N) wd (tmR T.toInt N) t) := by
    intro y4 y5 n0 hy4 hy5
    unfold jX2_makeTime_45
    rw [gR_at o (k := 2) (x := a) rfl, Option.bind_some, e1, Option.bind_some]
    rcases hy4 with ⟨rfl, rfl⟩ | ⟨rfl, rfl⟩
    · rw [if_pos rfl]
      obtain ⟨G', e', r', k'⟩ := f68 G1 0 g y5 (by omega) r1 o1 k1 hy5
      exact ⟨G', e', r', k'⟩
    · obtain ⟨G2, e2, r2, k2⟩ := rb_add (v := v) k1 (by decide) 45
      have o2 := r2.ob hne o1
      rw [if_neg (by decide), gR_at o1 (k := 2) (x := a) rfl, Option.bind_some, e2, Option.bind_some]
      obtain ⟨G', e', r', k'⟩ := f68 G2 1 _ y5 (by omega) (r1.tr r2) o2 k2 hy5
      exact ⟨G', e', r', k'⟩
  have hz : ((0 : Int64) ≤ T) ↔ 0 ≤ T.toInt := by
    rw [Int64.le_iff_toInt_le]
    exact Iff.rfl
  unfold fX2_makeTime
  rw [gOb_at o, Option.bind_some]
  by_cases c : (0 : Int64) ≤ T
  · have c' := hz.mp c
    have eW : tmW T.toInt N = T.toInt.toNat := by unfold tmW; rw [if_pos c']
    have eN : tmN T.toInt = 0 := by unfold tmN; rw [if_pos c']
    have eR : tmR T.toInt N = N := by unfold tmR; rw [if_pos c']
    rw [if_pos c]
    unfold jX2_makeTime_11 jX2_makeTime_26 jX2_makeTime_27
    rw [if_pos rfl, if_pos rfl, Option.bind_some]
    have eA : (if 0 < T then T else -T) = lN (tmW T.toInt N) := by
      rw [eW]
      by_cases p : 0 < T
      · rw [if_pos p]
        exact i64_of (by omega) (by omega)
      · rw [if_neg p]
        have p2 : ¬ 0 < T.toInt := fun q => p (Int64.lt_iff_toInt_lt.mpr q)
        exact i64_of (by rw [i64_neg (by omega)]; omega) (by omega)
    rw [eA, eN]
    exact f45 0 0 0 (Or.inl ⟨rfl, rfl⟩) (by rw [if_pos rfl, eR])
  · have c' : ¬ 0 ≤ T.toInt := fun q => c (hz.mpr q)
    have eN : tmN T.toInt = 1 := by unfold tmN; rw [if_neg c']
    rw [if_neg c, eN]
    unfold jX2_makeTime_11
    rw [if_neg (by decide)]
    by_cases z : N = 0
    · have eW : tmW T.toInt N = (-T.toInt).toNat := by unfold tmW; rw [if_neg c', if_pos z]
      have eR : tmR T.toInt N = N := by unfold tmR; rw [if_neg c', if_pos z, z]
      rw [if_pos ((nI_le0 (by omega)).mpr z)]
      unfold jX2_makeTime_26 jX2_makeTime_27
      rw [if_pos rfl, Option.bind_some]
      have p : ¬ 0 < T := fun q => c' (by have := Int64.lt_iff_toInt_lt.mp q; have e0 : (0 : Int64).toInt = 0 := rfl; omega)
      have eA : (if 0 < T then T else -T) = lN (tmW T.toInt N) := by
        rw [if_neg p, eW]
        exact i64_of (by rw [i64_neg (by omega)]; omega) (by omega)
      rw [eA]
      exact f45 1 0 1 (Or.inr ⟨rfl, rfl⟩) (by rw [if_pos rfl, eR])
    · have eW : tmW T.toInt N = (-T.toInt - 1).toNat := by unfold tmW; rw [if_neg c', if_neg z]
      have eR : tmR T.toInt N = 1000000000 - N := by unfold tmR; rw [if_neg c', if_neg z]
      rw [if_neg (fun q => z ((nI_le0 (by omega)).mp q))]
      unfold jX2_makeTime_27
      rw [if_neg (by decide)]
      have eA : -(T + 1) = lN (tmW T.toInt N) := by
        rw [eW]
        have e1 := i64_add1 (x := T) (by omega)
        exact i64_of (by rw [i64_neg (by omega), e1]; omega) (by omega)
      rw [eA]
      refine f45 1 1 1 (Or.inr ⟨rfl, rfl⟩) ?_
      rw [if_neg (by decide), eR]
      exact pk_sub (a := 1000000000) (b := N) (by omega)
theorem g_sayTime {T : Int64} {N wd t : Nat} (q : WG G0 m I J A B d 0 g h G) (h1 : -1099511627776 ≤ T.toInt) (h2 : T.toInt ≤ 1125899906842624) (hN : N ≤ 999999999) (hw : DW (tmW T.toInt N) wd) (ht : FT (tmR T.toInt N) t) : Ok (WG G0 m I J A B d (tL (tmN T.toInt) wd (tmR T.toInt N) t) g (tF h (tmN T.toInt) (tmW T.toInt N) wd (tmR T.toInt N) t)) (fX11_sayTime v G m T (lN N)) := by
  obtain ⟨hW, hR⟩ := tm_lt h1 h2 hN
  have w18 := hw.2.1
  have t9 := ht.1
  have f55 : ∀ (G2 : gH) (n0 : Nat) (h2 : Nat → Int32), n0 ≤ 1 → WG G0 m I J A B d n0 g h2 G2 → Ok (WG G0 m I J A B d (n0 + wd + frL (tmR T.toInt N) t) g (frF (fa h2 n0 wd (dd (tmW T.toInt N) wd)) (n0 + wd) (tmR T.toInt N) t)) (jX11_sayTime_55 v G2 m (lN (tmW T.toInt N)) (lN (tmR T.toInt N))) := by
    intro G2 n0 h2 hn0 k2
    unfold jX11_sayTime_55
    refine Ok.b (g_sayNumber k2 hW hw (by omega)) (fun G3 k3 => ?_)
    unfold frL frF
    refine Ok.i (fun z => ?_) (fun z => ?_)
    · have z0 := (lN_le0 (by omega)).mp z
      rw [if_pos z0, if_pos z0]
      exact Ok.s k3
    · have z0 : tmR T.toInt N ≠ 0 := fun q => z ((lN_le0 (by omega)).mpr q)
      rw [if_neg z0, if_neg z0]
      refine Ok.b (g_say k3 _ (by omega)) (fun G4 k4 => ?_)
      refine (g_frac k4 hR z0 ht (by omega)).w (fun G5 k5 => ?_)
      rw [show n0 + wd + (1 + t) = n0 + wd + 1 + t by omega]
      exact k5
  have hz : ((0 : Int64) ≤ T) ↔ 0 ≤ T.toInt := by
    rw [Int64.le_iff_toInt_le]
    exact Iff.rfl
  unfold fX11_sayTime
  refine Ok.e q.wr.ob ?_
  refine Ok.i (fun c => ?_) (fun c => ?_)
  · have c' := hz.mp c
    have eW : tmW T.toInt N = T.toInt.toNat := by unfold tmW; rw [if_pos c']
    have eN : tmN T.toInt = 0 := by unfold tmN; rw [if_pos c']
    have eR : tmR T.toInt N = N := by unfold tmR; rw [if_pos c']
    have eT : T = lN (tmW T.toInt N) := by rw [eW]; exact i64_of (by omega) (by omega)
    have := f55 G 0 h (by omega) q
    rw [eR, ← eT] at this
    unfold tL tF
    rw [eN, if_pos rfl, eR]
    exact this
  · have c' : ¬ 0 ≤ T.toInt := fun q => c (hz.mpr q)
    have eN : tmN T.toInt = 1 := by unfold tmN; rw [if_neg c']
    refine Ok.b (g_say q 45 (by decide)) (fun G1 k1 => ?_)
    have fin := f55 G1 1 _ (by omega) k1
    unfold tL tF
    rw [eN, if_neg (by decide)]
    by_cases z : N = 0
    · have eW : tmW T.toInt N = (-T.toInt).toNat := by unfold tmW; rw [if_neg c', if_pos z]
      have eR : tmR T.toInt N = 0 := by unfold tmR; rw [if_neg c', if_pos z]
      refine Ok.i (fun _ => ?_) (fun y => absurd ((lN_le0 (by omega)).mpr z) y)
      have eA : -T = lN (tmW T.toInt N) := by
        rw [eW]
        exact i64_of (by rw [i64_neg (by omega)]; omega) (by omega)
      unfold jX11_sayTime_34 jX11_sayTime_53
      refine Ok.i (fun _ => ?_) (fun y => absurd ((lN_le0 (by omega)).mpr z) y)
      rw [eA]
      rw [eR] at fin ⊢
      exact fin
    · have eW : tmW T.toInt N = (-T.toInt - 1).toNat := by unfold tmW; rw [if_neg c', if_neg z]
      have eR : tmR T.toInt N = 1000000000 - N := by unfold tmR; rw [if_neg c', if_neg z]
      refine Ok.i (fun y => absurd ((lN_le0 (by omega)).mp y) z) (fun _ => ?_)
      have eA : -T - 1 = lN (tmW T.toInt N) := by
        rw [eW]
        have e1 := i64_neg (x := T) (by omega)
        exact i64_of (by rw [i64_sub1 (by omega), e1]; omega) (by omega)
      unfold jX11_sayTime_34 jX11_sayTime_53
      refine Ok.i (fun y => absurd ((lN_le0 (by omega)).mp y) z) (fun _ => ?_)
      rw [eA, show (1000000000 : Int64) = lN 1000000000 from rfl, lN_sub (by omega), ← eR]
      exact fin
end TB2
/-! PURE: a ROW on both sides -/
/-- how long a ROW is, with its own digits -/
def rl (r : Nat) : Nat := r + dg (r + dg r)
theorem rl_ok : ∀ r, r < 420 → rl r = r + dg (rl r) ∧ rl r < 10000 ∧ rl r ≤ r + 4 ∧ 1 ≤ dg (rl r) ∧ ∀ i, i < 5 → 1 ≤ i → r + i < rl r → r + i ≠ r + dg (r + i) := by decide +kernel
theorem dg_DW {n : Nat} (h : n < 10000) : DW n (dg n) := by
  unfold DW dg
  by_cases c1 : 10 ≤ n
  · rw [if_pos c1]
    by_cases c2 : 100 ≤ n
    · rw [if_pos c2]
      by_cases c3 : 1000 ≤ n
      · rw [if_pos c3]
        exact ⟨by decide, by decide, Or.inr c3, h⟩
      · rw [if_neg c3]
        exact ⟨by decide, by decide, Or.inr c2, by omega⟩
    · rw [if_neg c2]
      exact ⟨by decide, by decide, Or.inr c1, by omega⟩
  · rw [if_neg c1]
    exact ⟨by decide, by decide, Or.inl rfl, by omega⟩
theorem k_dg {v : Nat → Nat} {G : gH} {n : Nat} (h : n < 10000) : fX7_decimalWidth v G (lN n) = some (nI (dg n)) := by
  obtain ⟨w, hw, e⟩ := k_width (v := v) (G := G) (k := n) (Nat.lt_trans h (by decide))
  rw [e, hw.u (dg_DW h)]
def rwF (g : Nat → Int32) (u L w : Nat) (l : List Int32) (uc : Nat) (gc : Nat → Int32) : Nat → Int32 :=
  upd (fa (upd (fa (upd (fa g u w (dd L w)) (u + w) 32) (u + w + 1) l.length (fun k => l.getD k 0)) (u + w + 1 + l.length) 61) (u + w + 1 + l.length + 1) uc gc) (u + w + 1 + l.length + 1 + uc) 10
theorem upd_c {f g : Nat → Int32} {i : Nat} {x : Int32} {n : Nat} (e : ∀ j, j < n → j ≠ i → f j = g j) : ∀ j, j < n → upd f i x j = upd g i x j := by
  intro j hj
  by_cases q : j = i
  · subst q
    rw [updI_s, updI_s]
  · rw [updI_n _ _ q, updI_n _ _ q]
    exact e j hj q
theorem fa_c {f g k k' : Nat → Int32} {u n N : Nat} (e : ∀ j, j < N → ¬ (u ≤ j ∧ j < u + n) → f j = g j) (e2 : ∀ j, j < n → k j = k' j) : ∀ j, j < N → fa f u n k j = fa g u n k' j := by
  intro j hj
  by_cases q : u ≤ j ∧ j < u + n
  · rw [fa_i q, fa_i q]
    exact e2 _ (by omega)
  · rw [fa_n q, fa_n q]
    exact e j hj q
theorem rwF_c {g h gc hc : Nat → Int32} {u L w uc : Nat} {l : List Int32} (e : ∀ j, j < u → g j = h j) (e2 : ∀ j, j < uc → gc j = hc j) : ∀ j, j < u + w + 1 + l.length + 1 + uc + 1 → rwF g u L w l uc gc j = rwF h u L w l uc hc j := by
  unfold rwF
  refine upd_c (fun j hj q => ?_)
  refine fa_c (N := u + w + 1 + l.length + 1 + uc) (fun j hj q => ?_) e2 j (by omega)
  refine upd_c (n := u + w + 1 + l.length + 1) (fun j hj q => ?_) j (by omega)
  refine fa_c (N := u + w + 1 + l.length) (fun j hj q => ?_) (fun _ _ => rfl) j (by omega)
  refine upd_c (n := u + w + 1) (fun j hj q => ?_) j (by omega)
  refine fa_c (N := u + w) (fun j hj q => ?_) (fun _ _ => rfl) j (by omega)
  exact e j (by omega)
section RO
variable {v : Nat → Nat} {G0 G G' : gH} {m : Nat} {I : Nat → Int32} {J : Int64} {A : Nat → Nat → Int32} {B : Nat → Nat → Int64} {d w a cap u wv : Nat} {g h : Nat → Int32} {x1 x2 : Value}
theorem k_addRow {lim s c capc uc : Nat} {gc : Nat → Int32} {l : List Int32} (hne : wv ≠ a) (hca : c ≠ a) (o : G.2.1 wv = some (2, [x1, .ref a, x2])) (rb : RowB G a 1024 u g) (rc : RowB G c capc uc gc) (hS : StrX lim G s l) (hlim : lim ≤ a) (hl : l.length ≤ 8) (huc : uc ≤ 400) (hu : u + rl (l.length + uc + 3) ≤ 1024) : ∃ G', fX2_addRow v G wv s c = some G' ∧ Fr2 G G' a ∧ RowB G' a 1024 (u + rl (l.length + uc + 3)) (rwF g u (rl (l.length + uc + 3)) (dg (rl (l.length + uc + 3))) l uc gc) := by
  obtain ⟨k1, k2, k3, k4, -⟩ := rl_ok (l.length + uc + 3) (by omega)
  obtain ⟨r, hr⟩ : ∃ r, r = l.length + uc + 3 := ⟨_, rfl⟩
  rw [← hr] at k1 k2 k3 k4 hu ⊢
  obtain ⟨L, hL⟩ : ∃ L, L = rl r := ⟨_, rfl⟩
  have hL2 : L = r + dg (r + dg r) := hL
  rw [← hL] at k1 k2 k3 k4 hu ⊢
  obtain ⟨w, hw⟩ : ∃ w, w = dg L := ⟨_, rfl⟩
  rw [← hw] at k1 k4 ⊢
  have dl := dg_le r
  obtain ⟨G1, e1, r1, b1⟩ := rb_addDecimal (v := v) (k := L) (wd := w) rb (Nat.lt_trans k2 (by decide)) (by rw [hw]; exact dg_DW k2) (by omega)
  have o1 := r1.ob hne o
  have c1 := rc.fr r1 hca
  have s1 := hS.fr r1 hlim
  obtain ⟨G2, e2, r2, b2⟩ := rb_add (v := v) b1 (by omega) 32
  have o2 := r2.ob hne o1
  have c2 := c1.fr r2 hca
  have s2 := s1.fr r2 hlim
  obtain ⟨G3, e3, r3, b3⟩ := rb_addText (v := v) b2 hlim s2 (by omega)
  have o3 := r3.ob hne o2
  have c3 := c2.fr r3 hca
  obtain ⟨G4, e4, r4, b4⟩ := rb_add (v := v) b3 (by omega) 61
  have o4 := r4.ob hne o3
  have c4 := c3.fr r4 hca
  obtain ⟨G5, e5, r5, b5⟩ := rb_addPart (v := v) (j := 0) (e := uc) hca b4 c4 (by omega) (Nat.le_refl _) (by omega)
  have o5 := r5.ob hne o4
  obtain ⟨G6, e6, r6, b6⟩ := rb_add (v := v) b5 (by omega) 10
  refine ⟨G6, ?_, ((((r1.tr r2).tr r3).tr r4).tr r5).tr r6, ?_⟩
  · unfold fX2_addRow
    have q1 : nI l.length + nI uc + 3 = nI r := by
      rw [nI_add, hr]
      exact nI_add _ 3
    have q2 : nI r + nI (dg (r + dg r)) = nI L := by rw [nI_add, hL2]
    rw [gOb_at o, Option.bind_some, str_len hS.st, Option.bind_some, rb_count rc, Option.bind_some, Option.bind_some, q1, nI_l (by omega), k_dg (by omega), Option.bind_some, Option.bind_some, nI_add, gR_at o (k := 1) (x := a) rfl, Option.bind_some, nI_l (by omega), k_dg (by omega), Option.bind_some, q2, nI_l (by omega), e1, Option.bind_some, gR_at o1 (k := 1) (x := a) rfl, Option.bind_some, e2, Option.bind_some, gR_at o2 (k := 1) (x := a) rfl, Option.bind_some, e3, Option.bind_some, gR_at o3 (k := 1) (x := a) rfl, Option.bind_some, e4, Option.bind_some, gR_at o4 (k := 1) (x := a) rfl, Option.bind_some, rb_count c4, Option.bind_some, show (0 : Int32) = nI 0 from rfl, e5, Option.bind_some, gR_at o5 (k := 1) (x := a) rfl, Option.bind_some, e6, Option.bind_some]
  · have z1 : (32 : Int32) &&& 255 = 32 := by decide
    have z2 : (61 : Int32) &&& 255 = 61 := by decide
    have z3 : (10 : Int32) &&& 255 = 10 := by decide
    rw [z1, z2, z3, Nat.sub_zero, show u + w + 1 + l.length + 1 + uc + 1 = u + L by omega] at b6
    have z4 : (fun k => gc (0 + k)) = gc := by
      funext k
      rw [Nat.zero_add]
    rw [z4] at b6
    exact b6
theorem g_putWord (q : WG G0 m I J A B d w g h G) (hw : w ≤ 420) (hd : d + w ≤ 120000) : Ok (WG G0 m I J A B (d + w) 0 (fa g d w h) h) (fX11_putWord v G m) := by
  have lp : ∀ (e c f : Nat) (G : gH) (d : Nat) (g : Nat → Int32), c + e = w → e < f → d + e ≤ 120000 → WG G0 m I J A B d w g h G → Ok (WG G0 m I J A B (d + e) 0 (fa g d e (fun j => h (c + j))) h) (lX11_putWord_2 v f G m (nI c)) := by
    intro e
    induction e with
    | zero =>
      intro c f G d g hc hf hd q
      obtain ⟨f, rfl⟩ : ∃ f', f = f' + 1 := ⟨f - 1, by omega⟩
      obtain rfl : c = w := by omega
      show Ok _ (bX11_putWord_2 v (lX11_putWord_2 v f) G m (nI c))
      unfold bX11_putWord_2
      refine Ok.e q.wr.i16 ?_
      refine Ok.i (fun _ => ?_) (fun z => absurd (nI_le (Nat.le_refl _) (by omega)) z)
      obtain ⟨I', A', h1, h2, h3, h4, h5, h6, h7, h8⟩ := q
      obtain ⟨G1, e1, k1, f1⟩ := h1.pi 16 0 rfl
      refine Ok.e e1 (Ok.s ⟨_, A', k1, fun k k14 k16 => ?_, h3, ?_, updI_s _ _ _, h6.tr f1, ?_, fun j hj => absurd hj (Nat.not_lt_zero _)⟩)
      · rw [updI_n _ _ k16]; exact h2 k k14 k16
      · rw [updI_n _ _ (by decide)]; exact h4
      · rw [fa_0]
        exact h7
    | succ e ih =>
      intro c f G d g hc hf hd q
      obtain ⟨f, rfl⟩ : ∃ f', f = f' + 1 := ⟨f - 1, by omega⟩
      show Ok _ (bX11_putWord_2 v (lX11_putWord_2 v f) G m (nI c))
      unfold bX11_putWord_2
      refine Ok.e q.wr.i16 ?_
      refine Ok.i (fun z => absurd z (nI_ge (by omega) (by omega))) (fun _ => ?_)
      refine Ok.e (q.wr.r 13 11 rfl (by decide)) ?_
      refine Ok.e q.wr.i14 ?_
      -- the word is read between drafted++ and the store
      obtain ⟨I', A', h1, h2, h3, h4, h5, h6, h7, h8⟩ := q
      obtain ⟨G1, e1, k1, f1⟩ := h1.pi 14 (nI d + 1) rfl
      obtain ⟨G2, e2, k2, f2⟩ := k1.st 11 (ty := .int) (j := d) (h c) ⟨by decide, by decide, rfl⟩ rfl (show d < 120000 by omega)
      have lw : gLdI G1 .int (m + 12) (nI c) = some (h c) := by
        rw [← h8 c (by omega)]
        exact k1.ld 12 (ty := .int) ⟨by decide, by decide, rfl⟩ rfl (show c < 420 by omega)
      refine Ok.e e1 (Ok.e (k1.r 15 12 rfl (by decide)) (Ok.e lw (Ok.e e2 (Ok.e rfl ?_))))
      rw [nI_1]
      have q2 : WG G0 m I J A B (d + 1) w (upd g d (h c)) h G2 := by
        refine ⟨_, _, k2, fun k k14 k16 => ?_, fun c c1 c2 => ?_, ?_, ?_, (h6.tr f1).tr f2, fun z hz => ?_, fun z hz => ?_⟩
        · rw [updI_n _ _ k14]; exact h2 k k14 k16
        · rw [← h3 c c1 c2]
          funext q
          exact upA_n (fun z => c1 z.1)
        · rw [updI_s, nI_1]
        · rw [updI_n _ _ (by decide)]; exact h5
        · by_cases e1 : z = d
          · subst e1
            rw [upA_s, updI_s]
          · rw [upA_n (fun q => e1 q.2), updI_n _ _ e1]
            exact h7 z (by omega)
        · rw [upA_n (by omega)]
          exact h8 z hz
      refine (ih (c + 1) f G2 (d + 1) _ (by omega) (by omega) (by omega) q2).w (fun G3 k3 => ?_)
      rw [show d + 1 + e = d + (e + 1) by omega] at k3
      refine k3.c (fun j hj => ?_) (fun _ _ => rfl)
      by_cases q : j = d
      · subst q
        rw [fa_n (by omega), updI_s, fa_i (by omega), show c + (j - j) = c by omega]
      · by_cases q2 : d + 1 ≤ j ∧ j < d + 1 + e
        · rw [fa_i q2, fa_i (by omega), show c + 1 + (j - (d + 1)) = c + (j - d) by omega]
        · rw [fa_n q2, updI_n _ _ q, fa_n (by omega)]
  unfold fX11_putWord
  refine Ok.e q.wr.ob ?_
  refine (lp w 0 gFu G d g (by omega) (by unfold gFu; omega) hd q).w (fun G2 k2 => k2.c (fun j hj => ?_) (fun _ _ => rfl))
  by_cases z : d ≤ j ∧ j < d + w
  · rw [fa_i z, fa_i z, Nat.zero_add]
  · rw [fa_n z, fa_n z]
/-- the key of a ROW, as the reference has it, is this text -/
def KeyOk (K : Int64) (l : List Int32) : Prop := l.length ≤ 8 ∧ (∀ i, i < l.length → ¬ (K.toUInt64 >>> (((8 : Int32) * nI i).toInt64.toUInt64 &&& Int64.toUInt64 63)).toInt64 = 0) ∧ (l.length < 8 → (K.toUInt64 >>> (((8 : Int32) * nI l.length).toInt64.toUInt64 &&& Int64.toUInt64 63)).toInt64 = 0) ∧ ∀ i, i < l.length → ((K.toUInt64 >>> (((8 : Int32) * nI i).toInt64.toUInt64 &&& Int64.toUInt64 63)).toInt64 &&& (255 : Int64)).toInt32 = l.getD (l.length - 1 - i) 0
theorem key_path : KeyOk 1885434984 [112, 97, 116, 104] := by unfold KeyOk; decide +kernel
theorem key_link : KeyOk 7811896436376826984 [108, 105, 110, 107, 112, 97, 116, 104] := by unfold KeyOk; decide +kernel
theorem key_uid : KeyOk 7694692 [117, 105, 100] := by unfold KeyOk; decide +kernel
theorem key_gid : KeyOk 6777188 [103, 105, 100] := by unfold KeyOk; decide +kernel
theorem key_time : KeyOk 470104501605 [109, 116, 105, 109, 101] := by unfold KeyOk; decide +kernel
theorem g_row (q : WG G0 m I J A B d w g h G) {K : Int64} {l : List Int32} (hK : KeyOk K l) (hw : w ≤ 400) (hd : d + rl (l.length + w + 3) ≤ 120000) : Ok (WG G0 m I J A B (d + rl (l.length + w + 3)) 0 (rwF g d (rl (l.length + w + 3)) (dg (rl (l.length + w + 3))) l w h) h) (fX11_row v G m K) := by
  obtain ⟨hK1, hK2, hK3, hK4⟩ := hK
  obtain ⟨k1, k2, k3, k4, k5⟩ := rl_ok (l.length + w + 3) (by omega)
  obtain ⟨r, hr⟩ : ∃ r, r = l.length + w + 3 := ⟨_, rfl⟩
  rw [← hr] at k1 k2 k3 k4 k5 hd ⊢
  obtain ⟨L, hL⟩ : ∃ L, L = rl r := ⟨_, rfl⟩
  rw [← hL] at k1 k2 k3 k4 k5 hd ⊢
  obtain ⟨wd, hwd⟩ : ∃ wd, wd = dg L := ⟨_, rfl⟩
  rw [← hwd] at k1 k4 ⊢
  have wd4 : wd ≤ 4 := by rw [hwd]; exact (dg_le L).2
  -- the key's letters, the word, the end
  have l171 : ∀ (i f : Nat) (G : gH) (e : Nat) (g : Nat → Int32), i ≤ l.length → i < f → e + i + 1 + w + 1 ≤ 120000 → WG G0 m I J A B e w g h G → Ok (WG G0 m I J A B (e + i + 1 + w + 1) 0 (upd (fa (upd (fa g e i (fun k => l.getD (l.length - i + k) 0)) (e + i) 61) (e + i + 1) w h) (e + i + 1 + w) 10) h) (lX11_row_171 v f G m K (nI i - 1)) := by
    intro i
    induction i with
    | zero =>
      intro f G e g hi hf he q
      obtain ⟨f, rfl⟩ : ∃ f', f = f' + 1 := ⟨f - 1, by omega⟩
      show Ok _ (bX11_row_171 v (lX11_row_171 v f) G m K (nI 0 - 1))
      unfold bX11_row_171
      refine Ok.i (fun _ => ?_) (fun z => absurd (by decide) z)
      refine Ok.e (q.wr.r 13 11 rfl (by decide)) ?_
      refine Ok.e q.wr.i14 ?_
      refine q.app (by omega) (fun G1 h1 => ?_)
      refine Ok.b (g_putWord h1 (by omega) (by omega)) (fun G2 h2 => ?_)
      refine Ok.e (h2.wr.r 13 11 rfl (by decide)) ?_
      refine Ok.e h2.wr.i14 ?_
      refine h2.app (by omega) (fun G3 h3 => ?_)
      rw [fa_0, Nat.add_zero]
      exact Ok.s h3
    | succ i ih =>
      intro f G e g hi hf he q
      obtain ⟨f, rfl⟩ : ∃ f', f = f' + 1 := ⟨f - 1, by omega⟩
      show Ok _ (bX11_row_171 v (lX11_row_171 v f) G m K (nI (i + 1) - 1))
      unfold bX11_row_171
      rw [nI_pred]
      refine Ok.i (fun z => absurd z (nI_pos (by omega))) (fun _ => ?_)
      refine Ok.e (q.wr.r 13 11 rfl (by decide)) ?_
      refine Ok.e q.wr.i14 ?_
      rw [hK4 i (by omega)]
      refine q.app (by omega) (fun G1 h1 => ?_)
      refine Ok.e rfl ?_
      rw [show nI i + (-1) = nI i - 1 from (Int32.sub_eq_add_neg _ _).symm]
      refine (ih f G1 (e + 1) _ (by omega) (by omega) (by omega) h1).w (fun G2 k2 => ?_)
      have eg : fa (upd g e (l.getD (l.length - 1 - i) 0)) (e + 1) i (fun k => l.getD (l.length - i + k) 0) = fa g e (i + 1) (fun k => l.getD (l.length - (i + 1) + k) 0) := by
        have := fa_s g e i (fun k => l.getD (l.length - (i + 1) + k) 0)
        rw [← this]
        have e2 : (fun k => l.getD (l.length - i + k) 0) = fun k => (fun k => l.getD (l.length - (i + 1) + k) 0) (k + 1) := by
          funext k
          show l.getD (l.length - i + k) 0 = l.getD (l.length - (i + 1) + (k + 1)) 0
          rw [show l.length - i + k = l.length - (i + 1) + (k + 1) by omega]
        rw [e2]
        show fa (upd g e (l.getD (l.length - 1 - i) 0)) (e + 1) i _ = fa (upd g e (l.getD (l.length - (i + 1) + 0) 0)) (e + 1) i _
        rw [show l.length - (i + 1) + 0 = l.length - 1 - i by omega]
      rw [eg, show e + 1 + i = e + (i + 1) by omega] at k2
      exact k2
  -- the length's digits, a space
  have l73 : ∀ (i f : Nat) (G : gH) (e : Nat) (g : Nat → Int32), i ≤ wd → i < f → e + i + 1 + l.length + 1 + w + 1 ≤ 120000 → WG G0 m I J A B e w g h G → Ok (WG G0 m I J A B (e + i + 1 + l.length + 1 + w + 1) 0 (upd (fa (upd (fa (upd (fa g e i (fun k => dd L wd (wd - i + k))) (e + i) 32) (e + i + 1) l.length (fun k => l.getD k 0)) (e + i + 1 + l.length) 61) (e + i + 1 + l.length + 1) w h) (e + i + 1 + l.length + 1 + w) 10) h) (lX11_row_73 v f G m K (nI l.length) (nI L) (nI i - 1)) := by
    intro i
    induction i with
    | zero =>
      intro f G e g hi hf he q
      obtain ⟨f, rfl⟩ : ∃ f', f = f' + 1 := ⟨f - 1, by omega⟩
      show Ok _ (bX11_row_73 v (lX11_row_73 v f) G m K (nI l.length) (nI L) (nI 0 - 1))
      unfold bX11_row_73
      refine Ok.i (fun _ => ?_) (fun z => absurd (by decide) z)
      refine Ok.e (q.wr.r 13 11 rfl (by decide)) ?_
      refine Ok.e q.wr.i14 ?_
      refine q.app (by omega) (fun G1 h1 => ?_)
      refine Ok.e rfl ?_
      refine (l171 l.length gFu G1 (e + 1) _ (Nat.le_refl _) (by unfold gFu; omega) (by omega) h1).w (fun G2 k2 => ?_)
      have e2 : (fun k => l.getD (l.length - l.length + k) 0) = fun k => l.getD k 0 := by
        funext k
        rw [Nat.sub_self, Nat.zero_add]
      rw [e2] at k2
      rw [fa_0, Nat.add_zero]
      exact k2
    | succ i ih =>
      intro f G e g hi hf he q
      obtain ⟨f, rfl⟩ : ∃ f', f = f' + 1 := ⟨f - 1, by omega⟩
      have f113 : ∀ z : Nat, z = 10 ^ i → Ok (WG G0 m I J A B (e + (i + 1) + 1 + l.length + 1 + w + 1) 0 (upd (fa (upd (fa (upd (fa g e (i + 1) (fun k => dd L wd (wd - (i + 1) + k))) (e + (i + 1)) 32) (e + (i + 1) + 1) l.length (fun k => l.getD k 0)) (e + (i + 1) + 1 + l.length) 61) (e + (i + 1) + 1 + l.length + 1) w h) (e + (i + 1) + 1 + l.length + 1 + w) 10) h) (jX11_row_113 v (lX11_row_73 v f) G m K (nI l.length) (nI L) (nI i) (nI z)) := by
        intro z hz
        have hz1 : 0 < z ∧ z < 2 ^ 31 := by
          rw [hz]
          exact ⟨(p10 (i := i) (by omega)).1, p10_31 (by omega)⟩
        unfold jX11_row_113
        refine Ok.e (q.wr.r 13 11 rfl (by decide)) ?_
        refine Ok.e q.wr.i14 ?_
        have ev : (48 : Int32) + (nI L / nI z - nI L / nI z / 10 * 10) = dd L wd (wd - (i + 1)) := by
          have hq : L / z < 2 ^ 31 := Nat.lt_of_le_of_lt (Nat.div_le_self _ _) (by omega)
          rw [nI_div (by omega) hz1.1 hz1.2, show (10 : Int32) = nI 10 from rfl, nI_mod hq (by decide) (by decide)]
          unfold dd
          rw [show (48 : Int32) = nI 48 from rfl, nI_add, hz, show wd - 1 - (wd - (i + 1)) = i by omega]
        rw [ev]
        have key := q.app (x := dd L wd (wd - (i + 1))) (Q := WG G0 m I J A B (e + (i + 1) + 1 + l.length + 1 + w + 1) 0 (upd (fa (upd (fa (upd (fa g e (i + 1) (fun k => dd L wd (wd - (i + 1) + k))) (e + (i + 1)) 32) (e + (i + 1) + 1) l.length (fun k => l.getD k 0)) (e + (i + 1) + 1 + l.length) 61) (e + (i + 1) + 1 + l.length + 1) w h) (e + (i + 1) + 1 + l.length + 1 + w) 10) h) (K := fun G5 => Option.bind (some (nI i + (-1 : Int32))) fun x6 => lX11_row_73 v f G5 m K (nI l.length) (nI L) x6) (by omega) (fun G1 h1 => ?_)
        · have nz : ¬ nI z = 0 := nI_ne0 hz1.1 hz1.2
          simp only [if_neg nz]
          exact key
        · refine Ok.e rfl ?_
          rw [show nI i + (-1) = nI i - 1 from (Int32.sub_eq_add_neg _ _).symm]
          refine (ih f G1 (e + 1) _ (by omega) (by omega) (by omega) h1).w (fun G2 k2 => ?_)
          have eg : fa (upd g e (dd L wd (wd - (i + 1)))) (e + 1) i (fun k => dd L wd (wd - i + k)) = fa g e (i + 1) (fun k => dd L wd (wd - (i + 1) + k)) := by
            have := fa_s g e i (fun k => dd L wd (wd - (i + 1) + k))
            rw [← this]
            have e2 : (fun k => dd L wd (wd - i + k)) = fun k => (fun k => dd L wd (wd - (i + 1) + k)) (k + 1) := by
              funext k
              show dd L wd (wd - i + k) = dd L wd (wd - (i + 1) + (k + 1))
              rw [show wd - i + k = wd - (i + 1) + (k + 1) by omega]
            rw [e2]
            rfl
          rw [eg, show e + 1 + i = e + (i + 1) by omega] at k2
          exact k2
      show Ok _ (bX11_row_73 v (lX11_row_73 v f) G m K (nI l.length) (nI L) (nI (i + 1) - 1))
      unfold bX11_row_73
      rw [nI_pred]
      refine Ok.i (fun z => absurd z (nI_pos (by omega))) (fun _ => ?_)
      rcases (show i = 0 ∨ i = 1 ∨ i = 2 ∨ i = 3 by omega) with rfl | rfl | rfl | rfl
      · refine Ok.i (fun z => absurd z (by decide)) (fun _ => Ok.i (fun z => absurd z (by decide)) (fun _ => Ok.i (fun z => absurd z (by decide)) (fun _ => f113 1 rfl)))
      · refine Ok.i (fun z => absurd z (by decide)) (fun _ => Ok.i (fun z => absurd z (by decide)) (fun _ => Ok.i (fun _ => f113 10 rfl) (fun z => absurd rfl z)))
      · refine Ok.i (fun z => absurd z (by decide)) (fun _ => Ok.i (fun _ => f113 100 rfl) (fun z => absurd rfl z))
      · refine Ok.i (fun _ => f113 1000 rfl) (fun z => absurd rfl z)
  -- the length counts its own digits
  have l45 : ∀ (e i f : Nat), i + e = L - r → e < f → 1 ≤ i → lX11_row_45 v f G m K (nI l.length) (nI r) (nI (r + i)) = lX11_row_73 v gFu G m K (nI l.length) (nI L) (nI wd - 1) := by
    intro e
    induction e with
    | zero =>
      intro i f hi hf h1
      obtain ⟨f, rfl⟩ : ∃ f', f = f' + 1 := ⟨f - 1, by omega⟩
      show bX11_row_45 v (lX11_row_45 v f) G m K (nI l.length) (nI r) (nI (r + i)) = _
      unfold bX11_row_45
      rw [show r + i = L by omega, t_digits (by omega), Option.bind_some, ← hwd, nI_add, ← k1, if_pos rfl, Option.bind_some, Option.bind_some]
    | succ e ih =>
      intro i f hi hf h1
      obtain ⟨f, rfl⟩ : ∃ f', f = f' + 1 := ⟨f - 1, by omega⟩
      rw [← ih (i + 1) f (by omega) (by omega) (by omega)]
      show bX11_row_45 v (lX11_row_45 v f) G m K (nI l.length) (nI r) (nI (r + i)) = _
      unfold bX11_row_45
      have ne := k5 i (by omega) h1 (by omega)
      have dl := dg_le (r + i)
      rw [t_digits (by omega), Option.bind_some, nI_add, if_neg (fun z => ne ((nI_eq (by omega) (by omega)).mp z)), Option.bind_some, nI_1]
      rfl
  have l2 : ∀ (e i f : Nat), i + e = l.length → e < f → lX11_row_2 v f G m K (nI i) = jX11_row_25 v G m K (nI l.length) := by
    intro e
    induction e with
    | zero =>
      intro i f hi hf
      obtain ⟨f, rfl⟩ : ∃ f', f = f' + 1 := ⟨f - 1, by omega⟩
      obtain rfl : i = l.length := by omega
      show bX11_row_2 v (lX11_row_2 v f) G m K (nI l.length) = _
      unfold bX11_row_2
      by_cases z : (8 : Int32) ≤ nI l.length
      · rw [if_pos z]
      · have z8 : l.length < 8 := by
          rcases Nat.lt_or_ge l.length 8 with y | y
          · exact y
          · exact absurd (nI_le (a := 8) y (by omega)) z
        rw [if_neg z, if_pos (hK3 z8)]
    | succ e ih =>
      intro i f hi hf
      obtain ⟨f, rfl⟩ : ∃ f', f = f' + 1 := ⟨f - 1, by omega⟩
      rw [← ih (i + 1) f (by omega) (by omega)]
      show bX11_row_2 v (lX11_row_2 v f) G m K (nI i) = _
      unfold bX11_row_2
      rw [if_neg (show ¬ (8 : Int32) ≤ nI i from nI_ge (b := 8) (by omega) (by decide)), if_neg (hK2 i (by omega)), Option.bind_some, nI_1]
  unfold fX11_row
  refine Ok.e q.wr.ob ?_
  rw [show (0 : Int32) = nI 0 from rfl, l2 l.length 0 gFu (by omega) (by unfold gFu; omega)]
  unfold jX11_row_25
  refine Ok.e q.wr.i16 ?_
  refine Ok.e rfl ?_
  refine Ok.e rfl ?_
  have er : (1 : Int32) + nI l.length + 1 + nI w + 1 = nI r := by
    rw [show (1 : Int32) + nI l.length = nI (1 + l.length) from nI_add 1 _, nI_1, nI_add, nI_1, hr]
    congr 1
    omega
  rw [er, nI_1, l45 (L - r - 1) 1 gFu (by omega) (by unfold gFu; omega) (by omega)]
  refine (l73 wd gFu G d g (Nat.le_refl _) (by unfold gFu; omega) (by omega) q).w (fun G2 k2 => ?_)
  have e2 : (fun k => dd L wd (wd - wd + k)) = dd L wd := by
    funext k
    rw [Nat.sub_self, Nat.zero_add]
  rw [e2, show d + wd + 1 + l.length + 1 + w + 1 = d + L by omega] at k2
  exact k2
end RO
