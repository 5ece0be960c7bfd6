/-! PURE: a HEAD is passed, on both sides -/
section PH
variable {v : Nat → Nat} {Gc Gm : gH} {b m len p fo : Nat} {O : Nat → Nat → Int32} {P : Nat → Nat → Int64} {I : Nat → Int32} {J : Int64} {A : Nat → Nat → Int32} {B : Nat → Nat → Int64}
theorem t32 {x : Int64} {k : Nat} (hx : x.toInt = k) (hk : k < 2 ^ 31) : x.toInt32 = nI k := by
  apply Int32.toInt_inj.mp
  rw [Int64.toInt_toInt32, hx, nI_toInt hk]
  apply Int.bmod_eq_of_le <;> omega
theorem fl_b1 (n : Nat) : n ≤ fl n ∧ fl n < n + 512 := by
  unfold fl
  omega
/-- the class tests the length -/
theorem c_153 (c : CAt Gc b O P) (h : AE O A len) (hp : p + 512 ≤ len) (kd y4 : Int32) {Z : Int64} {z : Nat} (hZ : Z.toInt = z) : jX1_passHead_153 v Gc (b + 11) (nI p) kd y4 Z = if p + 512 + fl z ≤ len then (if y4 = (0) then
  (if kd = (120 : Int32) then
  (jX1_passHead_247 v Gc (b + 11) kd Z (nI (p + 512)) (nI (p + 512 + z)))
  else
  if kd = (103 : Int32) then
  (jX1_passHead_247 v Gc (b + 11) kd Z (nI (p + 512)) (nI (p + 512 + z)))
  else
  if kd = (75 : Int32) then
  (jX1_passHead_304 v Gc Z (nI (p + 512)) (nI (p + 512 + z)) (b + 16) (b + 11))
  else
  jX1_passHead_304 v Gc Z (nI (p + 512)) (nI (p + 512 + z)) (b + 14) (b + 11))
  else
  Option.bind (fX1_takeEntry v Gc (b + 11) (nI p) kd Z) fun x21 =>
  jX1_passHead_313 v x21.2 Z (nI (p + 512)) x21.1) else jX1_passHead_198 v Gc (b + 11) (nI p) := by
  have hl := h.2.1
  have hf := fl_b1 z
  have o11 := c.o11
  have r0 := gR_at o11 (k := 0) (x := b + 3) rfl
  have r2 := gR_at o11 (k := 2) (x := b + 13) rfl
  have cn := rb_count (v := v) (c.rA h)
  have e5 : nI p + (512 : Int32) = nI (p + 512) := nI_add p 512
  have es : nI len - nI (p + 512) = nI (len - (p + 512)) := pk_sub hp
  have lt : ((nI (len - (p + 512))).toInt64 < Z) ↔ len - (p + 512) < z := by
    rw [Int64.lt_iff_toInt_lt, Int32.toInt_toInt64, nI_toInt (by omega), hZ]
    omega
  unfold jX1_passHead_153
  simp only [Option.bind_some, r0, cn, e5, es, r2, gR_at (c.oA (k := 13) (Or.inl rfl)) (k := 0) (x := b + 14) rfl, gR_at (c.oA (k := 13) (Or.inl rfl)) (k := 1) (x := b + 16) rfl]
  by_cases c1 : len - (p + 512) < z
  · rw [if_pos (lt.mpr c1), if_neg (show ¬ p + 512 + fl z ≤ len by omega)]
  · rw [if_neg (fun w => c1 (lt.mp w)), t32 hZ (by omega), k_filled (by omega), Option.bind_some]
    by_cases c2 : p + 512 + fl z ≤ len
    · rw [if_pos (nI_le (by omega) (by omega)), if_pos c2, nI_add]
    · rw [if_neg (nI_ge (by omega) (by omega)), if_neg c2]
/-- the reference tests the length -/
theorem m_397 (K : MAt Gm m I J A B) (hI : I 12 = nI len) (hl : len ≤ 32768) (hp : p + 512 ≤ len) (kd y4 : Int32) {Z : Int64} {z : Nat} (hZ : Z.toInt = z) : jX11_one_397 v Gm m (nI p) kd y4 Z = if p + 512 + fl z ≤ len then (if y4 = (0) then
  (if kd ≤ (100 : Int32) then
  (if kd = (75 : Int32) then
  (jX11_one_540 v Gm (nI (p + 512 + fl z)) (1 : Int32) (nI z) (nI (p + 512)) m)
  else
  jX11_one_540 v Gm (nI (p + 512 + fl z)) (0 : Int32) (nI z) (nI (p + 512)) m)
  else
  if kd = (120 : Int32) then
  (jX11_one_514 v Gm (nI (p + 512 + fl z)) (0 : Int32) (nI z) (nI (p + 512)) m)
  else
  jX11_one_514 v Gm (nI (p + 512 + fl z)) (1 : Int32) (nI z) (nI (p + 512)) m)
  else
  Option.bind (fX11_entered v Gm m (nI p) kd Z) fun x10 =>
  jX11_one_543 v x10.2 (nI (p + 512 + fl z)) x10.1) else jX11_one_440 v Gm m (nI p) := by
  have hf := fl_b1 z
  have e5 : nI p + (512 : Int32) = nI (p + 512) := nI_add p 512
  have i12 : gI Gm m 10 12 = some (nI len) := (K.i 12 rfl).trans (by rw [hI])
  have e1 : ((nI len).toInt64).toInt = len := by rw [Int32.toInt_toInt64, nI_toInt (by omega)]
  have lt : ((nI len).toInt64 < Z) ↔ len < z := by
    rw [Int64.lt_iff_toInt_lt, e1, hZ]
    omega
  unfold jX11_one_397
  simp only [i12, Option.bind_some, e5]
  by_cases c1 : len < z
  · rw [if_pos (lt.mpr c1), if_neg (show ¬ p + 512 + fl z ≤ len by omega)]
  · have e2 : (Z + 511).toInt = (z : Int) + 511 := by
      rw [Int64.toInt_add, hZ, show (511 : Int64).toInt = 511 by decide]
      apply Int.bmod_eq_of_le <;> omega
    have e3 : ((Z + 511) / 512).toInt = ((z : Int) + 511) / 512 := by
      rw [i64_div (by omega) (by decide), e2, show (512 : Int64).toInt = 512 by decide]
    have e4 : ((Z + 511) / 512 * 512).toInt = (fl z : Nat) := by
      rw [Int64.toInt_mul, e3, show (512 : Int64).toInt = 512 by decide]
      have : ((z : Int) + 511) / 512 * 512 = (fl z : Nat) := by unfold fl; omega
      rw [this]
      apply Int.bmod_eq_of_le <;> omega
    have e6 : ((nI (p + 512)).toInt64 + ((Z + 511) / 512 * 512)).toInt = (p + 512 + fl z : Nat) := by
      rw [Int64.toInt_add, e4, Int32.toInt_toInt64, nI_toInt (by omega)]
      have : ((p + 512 : Nat) : Int) + (fl z : Nat) = (p + 512 + fl z : Nat) := by omega
      rw [this]
      apply Int.bmod_eq_of_le <;> omega
    have le : ((nI (p + 512)).toInt64 + ((Z + 511) / 512 * 512) ≤ (nI len).toInt64) ↔ p + 512 + fl z ≤ len := by
      rw [Int64.le_iff_toInt_le, e6, e1]
      omega
    rw [if_neg (fun w => c1 (lt.mp w))]
    by_cases c2 : p + 512 + fl z ≤ len
    · rw [if_pos (le.mpr c2), if_pos c2, t32 e4 (by omega), t32 hZ (by omega), nI_add]
    · rw [if_neg (fun w => c2 (le.mp w)), if_neg c2]
/-- a FAULT on both sides -/
theorem bad_r (c : CAt Gc b O P) (K : MAt Gm m I J A B) (fs : FS fo O A P B I) (x y x' y' : Int32) {C M : Option (Int32 × gH)} (hC : C = Option.bind (fX4_end v Gc (b + 23) x y) fun x2 => some (x2.1, x2.2)) (hM : M = Option.bind (fX11_failed v Gm m x' y') fun x1 => some ((-1 : Int32), x1)) {I0 : Nat → Int32} {Gc0 Gm0 : gH} (f1 : Fw Gc0 Gc b 320) (f2 : Fw Gm0 Gm m 23) : HR b m len p I0 Gc0 Gm0 C M := by
  obtain ⟨G1, O1, e1, c1, o1, g1⟩ := c_end (v := v) c x y
  obtain ⟨G2, I2, e2, k2, i2, g2⟩ := m_fail (v := v) K x' y'
  exact ⟨-1, G1, G2, O1, P, I2, J, A, B, fo, by rw [hC, e1, Option.bind_some], by rw [hM, e2, Option.bind_some], c1, k2, f1.tr g1, f2.tr g2, fs.eq (fun q hq => o1 q (by omega)) (fun _ _ => rfl) rfl rfl rfl (i2 19 (by decide) (by decide)), Or.inl rfl⟩
/-- the kinds -/
theorem kind_c (kd : Int32) : fX10_isEntryKind v Gc kd = some (if kd = 48 ∨ kd = 49 ∨ kd = 50 ∨ kd = 53 then 1 else 0) ∧ fX1_isAheadKind v Gc kd = some (if kd = 120 ∨ kd = 103 ∨ kd = 75 ∨ kd = 76 then 1 else 0) := by
  unfold fX10_isEntryKind jX10_isEntryKind_24 fX1_isAheadKind jX1_isAheadKind_24
  rw [gZ_0, gZ_1, Option.bind_some, Option.bind_some]
  constructor
  · by_cases z1 : kd = 48
    · rw [if_pos z1, if_pos (Or.inl z1)]
    · rw [if_neg z1]
      by_cases z2 : kd = 49
      · rw [if_pos z2, if_pos (Or.inr (Or.inl z2))]
      · rw [if_neg z2]
        by_cases z3 : kd = 50
        · rw [if_pos z3, if_pos (Or.inr (Or.inr (Or.inl z3)))]
        · rw [if_neg z3]
          by_cases z4 : kd = 53
          · rw [if_pos z4, if_pos (Or.inr (Or.inr (Or.inr z4)))]
          · rw [if_neg z4, if_neg (fun w => w.elim z1 (fun w => w.elim z2 (fun w => w.elim z3 z4)))]
  · by_cases z1 : kd = 120
    · rw [if_pos z1, if_pos (Or.inl z1)]
    · rw [if_neg z1]
      by_cases z2 : kd = 103
      · rw [if_pos z2, if_pos (Or.inr (Or.inl z2))]
      · rw [if_neg z2]
        by_cases z3 : kd = 75
        · rw [if_pos z3, if_pos (Or.inr (Or.inr (Or.inl z3)))]
        · rw [if_neg z3]
          by_cases z4 : kd = 76
          · rw [if_pos z4, if_pos (Or.inr (Or.inr (Or.inr z4)))]
          · rw [if_neg z4, if_neg (fun w => w.elim z1 (fun w => w.elim z2 (fun w => w.elim z3 z4)))]
theorem kind_m (kd : Int32) : jX11_one_265 v Gm m (nI p) kd = jX11_one_295 v Gm m (nI p) kd (if kd = 48 ∨ kd = 49 ∨ kd = 50 ∨ kd = 53 then 1 else 0) := by
  unfold jX11_one_265 jX11_one_290
  by_cases z1 : kd = 48
  · rw [if_pos z1, if_pos (Or.inl z1)]
  · rw [if_neg z1]
    by_cases z2 : kd = 49
    · rw [if_pos z2, if_pos (Or.inr (Or.inl z2))]
    · rw [if_neg z2]
      by_cases z3 : kd = 50
      · rw [if_pos z3, if_pos (Or.inr (Or.inr (Or.inl z3)))]
      · rw [if_neg z3]
        by_cases z4 : kd = 53
        · rw [if_pos z4, if_pos (Or.inr (Or.inr (Or.inr z4)))]
        · rw [if_neg z4, if_neg (fun w => w.elim z1 (fun w => w.elim z2 (fun w => w.elim z3 z4)))]
theorem kind_295 (kd : Int32) : jX11_one_295 v Gm m (nI p) kd 0 = if kd = 120 ∨ kd = 103 ∨ kd = 75 ∨ kd = 76 then jX11_one_339 v Gm m (nI p) kd 0 else Option.bind (fX11_failed v Gm m (6 : Int32) (nI p + (156 : Int32))) fun x6 => some ((-1 : Int32), x6) := by
  unfold jX11_one_295
  rw [if_pos rfl]
  by_cases z1 : kd = 120
  · rw [if_pos z1, if_pos (Or.inl z1)]
  · rw [if_neg z1]
    by_cases z2 : kd = 103
    · rw [if_pos z2, if_pos (Or.inr (Or.inl z2))]
    · rw [if_neg z2]
      by_cases z3 : kd = 75
      · rw [if_pos z3, if_pos (Or.inr (Or.inr (Or.inl z3)))]
      · rw [if_neg z3]
        by_cases z4 : kd = 76
        · rw [if_pos z4, if_pos (Or.inr (Or.inr (Or.inr z4)))]
        · rw [if_neg z4, if_neg (fun w => w.elim z1 (fun w => w.elim z2 (fun w => w.elim z3 z4)))]
/-- behind what is told ahead -/
theorem RR.hr {Gc0 Gm0 : gH} {C M C' M' : Option (Int32 × gH)} {Z : Int64} {z : Nat} (r : RR b m O P I A B Gc Gm C M) (fs : FS fo O A P B I) (h : AE O A len) (f1 : Fw Gc0 Gc b 320) (f2 : Fw Gm0 Gm m 23) (hZ : Z.toInt = z) (hz : p + 512 + fl z ≤ len) (hC : C' = Option.bind C fun x1 => jX1_passHead_313 v x1.2 Z (nI (p + 512)) x1.1) (hM : M' = Option.bind M fun x1 => jX11_one_543 v x1.2 (nI (p + 512 + fl z)) x1.1) : HR b m len p I Gc0 Gm0 C' M' := by
  have hl := h.2.1
  have hf := fl_b1 z
  obtain ⟨q, G1, M1, O1, P1, I1, J1, A1, B1, e1, e2, c1, k1, g1, g2, fO, fI, fA, fB, ah⟩ := r
  have fs1 : FS fo O1 A1 P1 B1 I1 := fs.eq (fun q hq => (fO q (by omega)).1) (fun q hq => (fO q (by omega)).2) (fB 13 (by decide)) (fA 14 (by decide)) (fA 15 (by decide)) (fI 19 (by decide) (by decide) (by decide))
  rw [hC, hM, e1, e2, Option.bind_some, Option.bind_some]
  unfold jX1_passHead_313 jX11_one_543
  cases q
  · rw [if_pos (show bI false = 0 from rfl), if_pos (show bI false = 0 from rfl)]
    exact ⟨-1, G1, M1, O1, P1, I1, J1, A1, B1, fo, rfl, rfl, c1, k1, f1.tr g1, f2.tr g2, fs1, Or.inl rfl⟩
  · rw [if_neg (show ¬ bI true = 0 by decide), if_neg (show ¬ bI true = 0 by decide), t32 hZ (by omega), k_filled (by omega), Option.bind_some, nI_add]
    exact ⟨_, G1, M1, O1, P1, I1, J1, A1, B1, fo, rfl, rfl, c1, k1, f1.tr g1, f2.tr g2, fs1, Or.inr ⟨p + 512 + fl z, rfl, by omega, hz, h.o (fO 3 (by decide)).1 (fO 4 (by decide)).1 (fA 10 (by decide)), fI 12 (by decide) (by decide) (by decide), ah rfl⟩⟩
/-- the size is known -/
theorem size_r {Gc0 Gm0 : gH} (c : CAt Gc b O P) (K : MAt Gm m I J A B) (h : AE O A len) (hI : I 12 = nI len) (ah : AH O A P B I) (sy : StrsY v b Gc) (fs : FS fo O A P B I) (hn : ∀ w, w < 5 → P 24 (2 + w) = B 22 w) (hp : p + 512 ≤ len) (kd : Int32) (e : Bool) (he : e = false → kd = 120 ∨ kd = 103 ∨ kd = 75 ∨ kd = 76) {Z : Int64} (hZ0 : 0 ≤ Z.toInt) (f1 : Fw Gc0 Gc b 320) (f2 : Fw Gm0 Gm m 23) : HR b m len p I Gc0 Gm0 (jX1_passHead_153 v Gc (b + 11) (nI p) kd (bI e) Z) (jX11_one_397 v Gm m (nI p) kd (bI e) Z) := by
  have hl := h.2.1
  obtain ⟨z, hz⟩ : ∃ z, z = Z.toInt.toNat := ⟨_, rfl⟩
  have hZ : Z.toInt = z := by omega
  have hf := fl_b1 z
  have o11 := c.o11
  rw [c_153 c h hp kd (bI e) hZ, m_397 K hI hl hp kd (bI e) hZ]
  by_cases g : p + 512 + fl z ≤ len
  · rw [if_pos g, if_pos g]
    cases e
    · rw [if_pos (show bI false = 0 from rfl), if_pos (show bI false = 0 from rfl)]
      have rows : ∀ k g', kg k g' → RR b m O P I A B Gc Gm (fX8_takeRows v Gc (b + 25) (b + k) (nI (p + 512)) (nI (p + 512 + z))) (fX11_rows v Gm m (nI (p + 512)) (nI z) (nI g')) := fun k g' hk => rows_r c K h ah hk sy (by omega) (by omega)
      rcases he rfl with k1 | k1 | k1 | k1
      · rw [if_pos k1, if_neg (show ¬ kd ≤ 100 by rw [k1]; decide), if_pos k1]
        refine (rows 13 0 (Or.inl ⟨rfl, rfl⟩)).hr fs h f1 f2 hZ g ?_ rfl
        unfold jX1_passHead_247 jX1_passHead_268
        rw [gR_at o11 (k := 5) (x := b + 25) rfl, Option.bind_some, if_pos k1, gR_at o11 (k := 2) (x := b + 13) rfl, Option.bind_some]
      · have k2 : ¬ kd = 120 := by rw [k1]; decide
        rw [if_neg k2, if_pos k1, if_neg (show ¬ kd ≤ 100 by rw [k1]; decide), if_neg k2]
        refine (rows 18 1 (Or.inr ⟨rfl, rfl⟩)).hr fs h f1 f2 hZ g ?_ rfl
        unfold jX1_passHead_247 jX1_passHead_268
        rw [gR_at o11 (k := 5) (x := b + 25) rfl, Option.bind_some, if_neg k2, gR_at o11 (k := 3) (x := b + 18) rfl, Option.bind_some]
      · rw [if_neg (show ¬ kd = 120 by rw [k1]; decide), if_neg (show ¬ kd = 103 by rw [k1]; decide), if_pos k1, if_pos (show kd ≤ 100 by rw [k1]; decide), if_pos k1]
        exact (long_r (v := v) (r := 16) (cc := 18) (yy := 1) c K h ah (Or.inr ⟨rfl, rfl, rfl⟩) (dt := p + 512) (sz := z) (by omega)).hr fs h f1 f2 hZ g rfl rfl
      · rw [if_neg (show ¬ kd = 120 by rw [k1]; decide), if_neg (show ¬ kd = 103 by rw [k1]; decide), if_neg (show ¬ kd = 75 by rw [k1]; decide), if_pos (show kd ≤ 100 by rw [k1]; decide), if_neg (show ¬ kd = 75 by rw [k1]; decide)]
        exact (long_r (v := v) (r := 14) (cc := 16) (yy := 0) c K h ah (Or.inl ⟨rfl, rfl, rfl⟩) (dt := p + 512) (sz := z) (by omega)).hr fs h f1 f2 hZ g rfl rfl
    · rw [if_neg (show ¬ bI true = 0 by decide), if_neg (show ¬ bI true = 0 by decide)]
      obtain ⟨q, G1, M1, O1, P1, I1, J1, A1, B1, fo1, e1, e2, c1, k1, g1, g2, fs1, ok⟩ := entry_r (v := v) c K h ah sy fs hn hp kd Z
      rw [e1, e2, Option.bind_some, Option.bind_some]
      unfold jX1_passHead_313 jX11_one_543
      cases q
      · rw [if_pos (show bI false = 0 from rfl), if_pos (show bI false = 0 from rfl)]
        exact ⟨-1, G1, M1, O1, P1, I1, J1, A1, B1, fo1, rfl, rfl, c1, k1, f1.tr g1, f2.tr g2, fs1, Or.inl rfl⟩
      · rw [if_neg (show ¬ bI true = 0 by decide), if_neg (show ¬ bI true = 0 by decide), t32 hZ (by omega), k_filled (by omega), Option.bind_some, nI_add]
        exact ⟨_, G1, M1, O1, P1, I1, J1, A1, B1, fo1, rfl, rfl, c1, k1, f1.tr g1, f2.tr g2, fs1, Or.inr ⟨p + 512 + fl z, rfl, by omega, g, ok rfl⟩⟩
  · rw [if_neg g, if_neg g]
    refine bad_r (v := v) c K fs 7 (nI p) 7 (nI p) ?_ rfl f1 f2
    unfold jX1_passHead_198
    rw [gR_at o11 (k := 6) (x := b + 23) rfl, Option.bind_some]
/-- a HEAD -/
theorem head_r (s : Sta v b Gc) (c : CAt Gc b O P) (K : MAt Gm m I J A B) (h : AE O A len) (hI : I 12 = nI len) (ah : AH O A P B I) (sy : StrsY v b Gc) (fs : FS fo O A P B I) (hp : p + 512 ≤ len) : HR b m len p I Gc Gm (fX1_passHead v Gc (b + 11) (nI p)) (Option.bind (fX11_isNumber v Gm m (nI p + (148 : Int32)) (8 : Int32) (0 : Int32)) fun x8 =>
  if x8.1 = (0) then
  (jX11_one_116 v x8.2 m (nI p))
  else
  Option.bind (gJ x8.2 m 10 31) fun x11 =>
  Option.bind (gR x8.2 m 10 11) fun x12 =>
  Option.bind (fX11_sumOf v x8.2 m x12 (nI p) (0 : Int32)) fun x13 =>
  if x11 = (x13.toInt64) then
  (jX11_one_128 v x8.2 m (nI p))
  else
  Option.bind (gJ x8.2 m 10 31) fun x16 =>
  Option.bind (gR x8.2 m 10 11) fun x17 =>
  Option.bind (fX11_sumOf v x8.2 m x17 (nI p) (1 : Int32)) fun x18 =>
  if x16 = (x18.toInt64) then
  (jX11_one_128 v x8.2 m (nI p))
  else
  jX11_one_116 v x8.2 m (nI p)) := by
  have hl := h.2.1
  obtain ⟨q, yc, ym, G1, M1, e1, e2, c1, k1, g1, g2⟩ := sum_r (v := v) c K h hp
  rw [e2]
  unfold fX1_passHead
  rw [gOb_at c.o11, Option.bind_some, gR_at c.o11 (k := 4) (x := b + 24) rfl, Option.bind_some, e1, Option.bind_some]
  have fs1 : FS fo O A (uP P 24 1 yc) B I := fs.eq (fun _ _ => rfl) (fun q hq => uP_n (by omega)) rfl rfl rfl rfl
  have ah1 : AH O A (uP P 24 1 yc) B I := ah.o (fun _ _ _ => rfl) (fun q _ _ => uP_n (by omega)) (fun _ _ _ => rfl) rfl rfl
  cases q
  · rw [if_pos (show bI false = 0 from rfl), if_neg (show ¬ (false = true) by decide)]
    refine bad_r (v := v) c1 k1 fs1 4 (nI p + 148) 4 (nI p + 148) ?_ rfl g1 g2
    rw [gR_at c1.o11 (k := 6) (x := b + 23) rfl, Option.bind_some]
  · rw [if_neg (show ¬ bI true = 0 by decide), if_pos rfl, gR_at c1.o11 (k := 4) (x := b + 24) rfl, Option.bind_some]
    obtain ⟨G2, M2, P2, c2, p2, g3, g4, alt⟩ := take_r (v := v) (s.ag g1.lo) c1 k1 h hp
    have fs2 : ∀ {B2 : Nat → Nat → Int64} {I2 : Nat → Int32}, B2 13 = B 13 → I2 19 = I 19 → FS fo O A P2 B2 I2 := fun h1 h2 => fs1.eq (fun _ _ => rfl) (fun q hq => p2 q (by omega)) h1 rfl rfl h2
    rcases alt with ⟨pl, I2, J2, B2, hpl, xC, xM, k2, i2, b2⟩ | ⟨J2, B2, xC, xM, k2, b2, hw, h3⟩
    · obtain ⟨G3, O3, e3, c3, o3, g5⟩ := c_end (v := v) c2 5 (nI pl)
      rw [xC, Option.bind_some, if_neg (nI_pos hpl), gR_at c2.o11 (k := 6) (x := b + 23) rfl, Option.bind_some, e3, Option.bind_some, xM]
      exact ⟨-1, G3, M2, O3, P2, I2, J2, A, B2, fo, rfl, rfl, c3, k2, (g1.tr g3).tr g5, g2.tr g4, (fs2 (b2 13 (by decide)) (i2 19 (by decide) (by decide))).eq (fun q hq => o3 q (by omega)) (fun _ _ => rfl) rfl rfl rfl rfl, Or.inl rfl⟩
    · have i156 : nI p + (156 : Int32) = nI (p + 156) := nI_add p 156
      have a1 := at_c (v := v) c2 h (j := p + 156) (by omega)
      have a2 := at_m k2 (j := p + 156) (by omega)
      have ah2 : AH O A P2 B2 I := ah1.o (fun _ _ _ => rfl) (fun q q1 q2 => p2 q (by omega)) (fun _ _ _ => rfl) (b2 21 (by decide)) rfl
      have f1 := g1.tr g3
      have f2 := g2.tr g4
      have sy2 := sy.ag f1.lo
      have go : ∀ kd : Int32, HR b m len p I Gc Gm (jX1_passHead_80 v G2 (b + 11) (nI p) kd) (jX11_one_265 v M2 m (nI p) kd) := by
        intro kd
        obtain ⟨kc1, kc2⟩ := kind_c (v := v) (Gc := G2) kd
        rw [kind_m]
        unfold jX1_passHead_80
        rw [kc1, Option.bind_some, kc2]
        by_cases ke : kd = 48 ∨ kd = 49 ∨ kd = 50 ∨ kd = 53
        · rw [if_pos ke, if_neg (show ¬ (1 : Int32) = 0 by decide)]
          unfold jX1_passHead_114 jX11_one_295 jX11_one_339
          have q24 : gJ G2 (b + 24) 6 5 = some (P2 24 5) := gJ_at c2.h24 rfl
          have qA1 : gJ G2 (b + 13) 0 4 = some (P2 13 4) := gJ_at (c2.oA (Or.inl rfl)) rfl
          have qA2 : gJ G2 (b + 18) 0 4 = some (P2 18 4) := gJ_at (c2.oA (Or.inr rfl)) rfl
          have hx : gLdJ M2 (m + 22) (nI (1 + 2)) = some (P2 24 5) := (k2.ldl 22 (j := 3) (by decide) (by decide)).trans (by rw [← hw 3 (by decide)])
          have n1 : ¬ (1 : Int32) = 0 := by decide
          simp only [if_neg n1, gR_at c2.o11 (k := 2) (x := b + 13) rfl, gR_at c2.o11 (k := 3) (x := b + 18) rfl, gR_at c2.o11 (k := 4) (x := b + 24) rfl, Option.bind_some, qA1, qA2, q24, c_pick]
          have mp := m_pick k2 ah2 rfl rfl (w := 2) (by decide) (fun x => jX11_one_397 v M2 m (nI p) kd 1 x) _ hx
          have mp' : (Option.bind (gR M2 m 10 28) fun x2 =>
              Option.bind (gLdI M2 .boolean x2 (2 : Int32)) fun x3 =>
              if x3 = (0) then
              (Option.bind (gR M2 m 10 28) fun x5 =>
              Option.bind (gLdI M2 .boolean x5 (6 : Int32)) fun x6 =>
              if x6 = (0) then
              (Option.bind (gR M2 m 10 32) fun x8 =>
              Option.bind (gLdJ M2 x8 (3 : Int32)) fun x9 =>
              jX11_one_397 v M2 m (nI p) kd 1 x9)
              else
              Option.bind (gR M2 m 10 29) fun x10 =>
              Option.bind (gLdJ M2 x10 (7 : Int32)) fun x11 =>
              jX11_one_397 v M2 m (nI p) kd 1 x11)
              else
              Option.bind (gR M2 m 10 29) fun x12 =>
              Option.bind (gLdJ M2 x12 (2 : Int32)) fun x13 =>
              jX11_one_397 v M2 m (nI p) kd 1 x13) = jX11_one_397 v M2 m (nI p) kd 1 (if P2 13 4 < 0 then (if P2 18 4 < 0 then P2 24 5 else P2 18 4) else P2 13 4) := mp
          rw [mp']
          refine size_r (v := v) c2 k2 h hI ah2 sy2 (fs2 (b2 13 (by decide)) rfl) hw hp kd true (fun z => absurd z (by decide)) ?_ f1 f2
          rcases ah2.1.2.2.1 2 (by decide) with ⟨-, w2⟩ | ⟨-, w2, -⟩
          · rw [if_pos (show P2 13 4 < 0 by rw [show P2 13 4 = -1 from w2]; decide)]
            rcases ah2.2.1.2.2.1 2 (by decide) with ⟨-, w3⟩ | ⟨-, w3, -⟩
            · rw [if_pos (show P2 18 4 < 0 by rw [show P2 18 4 = -1 from w3]; decide), show P2 24 5 = B2 22 3 from hw 3 (by decide)]
              exact h3
            · rw [if_neg (nn_lt w3)]
              exact w3
          · rw [if_neg (nn_lt w2)]
            exact w2
        · rw [if_neg ke, if_pos rfl, kind_295, Option.bind_some]
          by_cases ka : kd = 120 ∨ kd = 103 ∨ kd = 75 ∨ kd = 76
          · rw [if_pos ka, if_pos ka, if_neg (show ¬ (1 : Int32) = 0 by decide)]
            unfold jX1_passHead_114 jX11_one_339
            have q24 : gJ G2 (b + 24) 6 5 = some (P2 24 5) := gJ_at c2.h24 rfl
            have hx : gLdJ M2 (m + 22) 3 = some (P2 24 5) := (k2.ldl 22 (j := 3) (by decide) (by decide)).trans (by rw [← hw 3 (by decide)])
            rw [if_pos rfl, if_pos rfl, gR_at c2.o11 (k := 4) (x := b + 24) rfl, Option.bind_some, q24, Option.bind_some, k2.r 32 22 rfl (by decide), Option.bind_some, hx, Option.bind_some]
            refine size_r (v := v) c2 k2 h hI ah2 sy2 (fs2 (b2 13 (by decide)) rfl) hw hp kd false (fun _ => ka) ?_ f1 f2
            rw [show P2 24 5 = B2 22 3 from hw 3 (by decide)]
            exact h3
          · rw [if_neg ka, if_neg ka, if_pos rfl]
            refine bad_r (v := v) c2 k2 (fs2 (b2 13 (by decide)) rfl) 6 (nI p + 156) 6 (nI p + 156) ?_ rfl f1 f2
            rw [gR_at c2.o11 (k := 6) (x := b + 23) rfl, Option.bind_some]
      rw [xC, Option.bind_some, if_pos (show (-1 : Int32) < 0 by decide), gR_at c2.o11 (k := 0) (x := b + 3) rfl, Option.bind_some, i156, a1, Option.bind_some, xM]
      unfold bX11_one_130
      rw [if_pos (show (5 : Int32) ≤ nI 5 by decide), k2.r 11 10 rfl (by decide)]
      simp only [Option.bind_some, i156, a2, a1]
      by_cases z : A 10 (p + 156) = 0
      · rw [if_pos z, if_pos z]
        exact go 48
      · rw [if_neg z, if_neg z]
        exact go _
end PH
/-! PURE: reading, on both sides -/
section RR2
variable {v : Nat → Nat} {Gc Gm : gH} {b m len p fo : Nat} {O : Nat → Nat → Int32} {P : Nat → Nat → Int64} {I : Nat → Int32} {J : Int64} {A : Nat → Nat → Int32} {B : Nat → Nat → Int64}
/-- a BLOCK of zeros -/
theorem blank_r (c : CAt Gc b O P) (K : MAt Gm m I J A B) (h : AE O A len) (hI : I 12 = nI len) (hp : p ≤ len) : ∃ q : Bool, fX1_isBlank v Gc (b + 11) (nI p) = some (bI q) ∧ fX11_isZeros v Gm m (nI p) = some (bI q) ∧ (q = true → p + 512 ≤ len) := by
  have hl := h.2.1
  have o11 := c.o11
  have r0 := gR_at o11 (k := 0) (x := b + 3) rfl
  have hr := K.r 11 10 rfl (by decide)
  have i12 : gI Gm m 10 12 = some (nI len) := (K.i 12 rfl).trans (by rw [hI])
  have dead : ∀ (i f : Nat), lX11_isZeros_20 v Gm (f + 1) m (nI p) 0 (nI i) = some 0 := by
    intro i f
    show bX11_isZeros_20 v Gm (lX11_isZeros_20 v Gm f) m (nI p) 0 (nI i) = _
    unfold bX11_isZeros_20
    rw [gZ_0, Option.bind_some]
    by_cases w : (512 : Int32) ≤ nI i
    · rw [if_pos w]
    · rw [if_neg w, if_pos rfl]
  unfold fX1_isBlank fX11_isZeros jX11_isZeros_17
  rw [gOb_at o11, Option.bind_some, r0, Option.bind_some, rb_count (c.rA h), Option.bind_some, K.ob, Option.bind_some, i12, Option.bind_some, pk_sub hp, show nI p + (512 : Int32) = nI (p + 512) from nI_add p 512]
  by_cases z : p + 512 ≤ len
  · rw [if_pos (show (512 : Int32) ≤ nI (len - p) from nI_le (a := 512) (by omega) (by omega)), if_neg (Int32.not_lt.mpr (nI_le z (by omega)))]
    have lp : ∀ (d i f1 f2 : Nat), i + d = 512 → d < f1 → d < f2 → ∃ q : Bool, lX1_isBlank_19 v Gc f1 (b + 11) (nI p) (nI (p + i)) = some (bI q) ∧ lX11_isZeros_20 v Gm (f2 + 1) m (nI p) 1 (nI i) = some (bI q) := by
      intro d
      induction d with
      | zero =>
        intro i f1 f2 hi h1 h2
        obtain ⟨f1, rfl⟩ : ∃ f', f1 = f' + 1 := ⟨f1 - 1, by omega⟩
        obtain rfl : i = 512 := by omega
        refine ⟨true, ?_, ?_⟩
        · show bX1_isBlank_19 v Gc (lX1_isBlank_19 v Gc f1) (b + 11) (nI p) (nI (p + 512)) = _
          unfold bX1_isBlank_19
          rw [show nI p + (512 : Int32) = nI (p + 512) from nI_add p 512, if_pos (nI_le (Nat.le_refl _) (by omega)), gZ_1, Option.bind_some]
          rfl
        · show bX11_isZeros_20 v Gm (lX11_isZeros_20 v Gm f2) m (nI p) 1 (nI 512) = _
          unfold bX11_isZeros_20
          rw [if_pos (by decide), gZ_1, Option.bind_some]
          rfl
      | succ d ih =>
        intro i f1 f2 hi h1 h2
        obtain ⟨f1, rfl⟩ : ∃ f', f1 = f' + 1 := ⟨f1 - 1, by omega⟩
        obtain ⟨f2, rfl⟩ : ∃ f', f2 = f' + 1 := ⟨f2 - 1, by omega⟩
        obtain ⟨q, e1, e2⟩ := ih (i + 1) f1 f2 (by omega) (by omega) (by omega)
        have a1 := at_c (v := v) c h (j := p + i) (by omega)
        have a2 := at_m K (j := p + i) (by omega)
        have e5 : nI p + (512 : Int32) = nI (p + 512) := nI_add p 512
        have n1 : ¬ nI (p + 512) ≤ nI (p + i) := nI_ge (by omega) (by omega)
        have n2 : ¬ (512 : Int32) ≤ nI i := nI_ge (b := 512) (by omega) (by decide)
        have n3 : ¬ (1 : Int32) = 0 := by decide
        have u1 : lX1_isBlank_19 v Gc (f1 + 1) (b + 11) (nI p) (nI (p + i)) = if A 10 (p + i) = 0 then some (bI q) else some 0 := by
          show bX1_isBlank_19 v Gc (lX1_isBlank_19 v Gc f1) (b + 11) (nI p) (nI (p + i)) = _
          unfold bX1_isBlank_19
          simp only [e5, if_neg n1, r0, Option.bind_some, a1, nI_1, Nat.add_assoc, e1, gZ_0]
        have u2 : lX11_isZeros_20 v Gm (f2 + 1 + 1) m (nI p) 1 (nI i) = if A 10 (p + i) = 0 then some (bI q) else some 0 := by
          show bX11_isZeros_20 v Gm (lX11_isZeros_20 v Gm (f2 + 1)) m (nI p) 1 (nI i) = _
          unfold bX11_isZeros_20 jX11_isZeros_47
          simp only [if_neg n2, if_neg n3, hr, Option.bind_some, nI_add, a2, nI_1, e2, dead]
        rw [u1, u2]
        by_cases w : A 10 (p + i) = 0
        · exact ⟨q, by rw [if_pos w], by rw [if_pos w]⟩
        · exact ⟨false, by rw [if_neg w]; rfl, by rw [if_neg w]; rfl⟩
    obtain ⟨q, e1, e2⟩ := lp 512 0 gFu (gFu - 1) rfl (by unfold gFu; omega) (by unfold gFu; omega)
    exact ⟨q, e1, e2, fun _ => z⟩
  · rw [if_neg (show ¬ (512 : Int32) ≤ nI (len - p) from nI_ge (b := 512) (by omega) (by decide)), if_pos (Int32.not_le.mp (nI_ge (by omega) (by omega))), gZ_0, Option.bind_some]
    exact ⟨false, rfl, dead 0 (gFu - 1), fun w => absurd w (by decide)⟩
/-- whether something is told of the next ENTRY -/
theorem tells_r (c : CAt Gc b O P) (ah : AH O A P B I) : fX0_tellsSomething v Gc (b + 13) = some (I 30) := by
  obtain ⟨⟨⟨u1, a1, a2, a3, a4⟩, ⟨u2, b1, b2, b3, b4⟩, nn, tt⟩, -, fl⟩ := ah
  have o := c.oA (k := 13) (Or.inl rfl)
  have r1 := c.rt (k := 14) rfl a2 (by omega)
  have r2 := c.rt (k := 16) rfl b2 (by omega)
  have c1 : fX7_count v Gc (b + 13 + 1) = some (nI u1) := r_count r1
  have c2 : fX7_count v Gc (b + 13 + 3) = some (nI u2) := r_count r2
  have j2 : gJ Gc (b + 13) 0 2 = some (P 13 2) := gJ_at o rfl
  have j3 : gJ Gc (b + 13) 0 3 = some (P 13 3) := gJ_at o rfl
  have j4 : gJ Gc (b + 13) 0 4 = some (P 13 4) := gJ_at o rfl
  have i5 : gI Gc (b + 13) 0 5 = some (O 13 5) := gI_at o rfl
  have yes : ¬ Nt O P → (1 : Int32) = I 30 := fun w => by
    rcases fl with ⟨-, z⟩ | ⟨z, -⟩
    · exact absurd z w
    · exact z.symm
  unfold fX0_tellsSomething jX0_tellsSomething_54
  simp only [gOb_at o, Option.bind_some, gR_at o (k := 0) (x := b + 13 + 1) rfl, gR_at o (k := 1) (x := b + 13 + 3) rfl, c1, c2, j2, j3, j4, i5, gZ_0, gZ_1]
  by_cases z1 : u1 = 0
  · rw [if_neg (show ¬ (0 : Int32) < nI u1 by rw [z1]; decide)]
    by_cases z2 : u2 = 0
    · rw [if_neg (show ¬ (0 : Int32) < nI u2 by rw [z2]; decide)]
      have num : ∀ w, w < 3 → (0 ≤ P 13 (2 + w) ∧ ¬ Nt O P) ∨ (¬ 0 ≤ P 13 (2 + w) ∧ P 13 (2 + w) = -1) := by
        intro w hw
        rcases nn w hw with ⟨-, h2⟩ | ⟨-, h2, -⟩
        · exact Or.inr ⟨by rw [h2]; decide, h2⟩
        · refine Or.inl ⟨Int64.le_iff_toInt_le.mpr h2, fun q => ?_⟩
          have := q.2.2.1 w hw
          rw [this] at h2
          exact absurd h2 (by decide)
      rcases num 0 (by decide) with ⟨p1, p2⟩ | ⟨p1, p2⟩
      · rw [if_pos p1, yes p2]
      · rw [if_neg p1]
        rcases num 1 (by decide) with ⟨q1, q2⟩ | ⟨q1, q2⟩
        · rw [if_pos q1, yes q2]
        · rw [if_neg q1]
          rcases num 2 (by decide) with ⟨s1, s2⟩ | ⟨s1, s2⟩
          · rw [if_pos s1, yes s2]
          · rw [if_neg s1]
            rcases tt with ⟨-, t2⟩ | ⟨-, t2, -⟩
            · rw [if_pos t2]
              have hnt : Nt O P := ⟨by rw [a2, z1], by rw [b2, z2], fun w hw => by
                rcases (show w = 0 ∨ w = 1 ∨ w = 2 by omega) with rfl | rfl | rfl
                · exact p2
                · exact q2
                · exact s2, t2⟩
              rcases fl with ⟨z, -⟩ | ⟨-, z⟩
              · rw [z]
              · exact absurd hnt z
            · rw [if_neg (by rw [t2]; decide)]
              rw [yes (fun q => by
                have := q.2.2.2
                rw [t2] at this
                exact absurd this (by decide))]
    · rw [if_pos (Int32.not_le.mp (nI_nle (by omega) (by omega)))]
      rw [yes (fun q => by
        have := q.2.1
        rw [b2] at this
        exact z2 ((nI_eq (by omega) (by decide)).mp this))]
  · rw [if_pos (Int32.not_le.mp (nI_nle (by omega) (by omega)))]
    rw [yes (fun q => by
      have := q.1
      rw [a2] at this
      exact z1 ((nI_eq (by omega) (by decide)).mp this))]
/-- an end -/
theorem end_r (c : CAt Gc b O P) (K : MAt Gm m I J A B) (h : AE O A len) (hI : I 12 = nI len) (ah : AH O A P B I) (fs : FS fo O A P B I) (hp : p + 512 ≤ len) (y : Int32) : HR b m len p I Gc Gm (fX1_passEnd v Gc (b + 11) (nI p) y) (fX11_end v Gm m (nI p) y) := by
  have hl := h.2.1
  have o11 := c.o11
  have e5 : nI p + (512 : Int32) = nI (p + 512) := nI_add p 512
  have e10 : nI p + (1024 : Int32) = nI (p + 1024) := nI_add p 1024
  obtain ⟨q, b1, b2, b3⟩ := blank_r (v := v) c K h hI (p := p + 512) (by omega)
  unfold fX1_passEnd fX11_end
  rw [gOb_at o11, Option.bind_some, e5, b1, Option.bind_some, K.ob, Option.bind_some, b2, Option.bind_some]
  cases q
  · rw [if_pos (show bI false = 0 from rfl), if_pos (show bI false = 0 from rfl)]
    refine bad_r (v := v) c K fs 3 (nI p) 3 (nI p) ?_ rfl Fw.rf Fw.rf
    rw [gR_at o11 (k := 6) (x := b + 23) rfl, Option.bind_some]
  · have hp2 := b3 rfl
    rw [if_neg (show ¬ bI true = 0 by decide), if_neg (show ¬ bI true = 0 by decide), K.i 30 rfl, Option.bind_some, gI_at o11 (k := 8) (x := O 11 8) rfl, Option.bind_some]
    obtain ⟨G1, x1, c1, g1'⟩ := c.ti (tm_D8 (b := b) (x := O 11 8 + 1))
    have g1 : Fw Gc G1 b 320 := ⟨g1'.1, fun q hq => g1'.2 q (by omega)⟩
    have oo : ∀ q, q ≠ 11 → uO O 11 8 (O 11 8 + 1) q = O q := fun q hq => uO_n hq
    have o7 : uO O 11 8 (O 11 8 + 1) 11 7 = O 11 7 := by rw [uO_s, updI_n _ _ (by decide)]
    have h1 : AE (uO O 11 8 (O 11 8 + 1)) A len := h.o (oo 3 (by decide)) (oo 4 (by decide)) rfl
    have ah1 : AH (uO O 11 8 (O 11 8 + 1)) A P B I := ah.o (fun q z1 z2 => oo q (by omega)) (fun _ _ _ => rfl) (fun _ _ _ => rfl) rfl rfl
    have fs1 : ∀ {I1 : Nat → Int32}, I1 19 = I 19 → FS fo (uO O 11 8 (O 11 8 + 1)) A P B I1 := fun e => ⟨fs.1, by rw [o7]; exact fs.2.1, by rw [e]; exact fs.2.2.1, fun i hi => (fs.2.2.2 i hi).eq (fun q z1 z2 => oo q (by omega)) rfl (fun _ _ => rfl) (fun _ _ => rfl) (fun _ _ => rfl)⟩
    rw [x1, Option.bind_some, gR_at c1.o11 (k := 2) (x := b + 13) rfl, Option.bind_some, tells_r c1 ah1, Option.bind_some]
    rcases ah.i with z | z
    · rw [if_pos z, if_pos z, K.i 20 rfl]
      obtain ⟨M1, y1, k1, g2⟩ := K.pi 20 (I 20 + 1) rfl
      simp only [Option.bind_some, y1, e10]
      have hI1 : upd I 20 (I 20 + 1) 12 = nI len := by rw [updI_n _ _ (by decide)]; exact hI
      have over : HR b m len p I Gc Gm (some (-1, G1)) (some (-1, M1)) := ⟨-1, G1, M1, _, P, _, J, A, B, fo, rfl, rfl, c1, k1, g1, g2, fs1 (updI_n _ _ (by decide)), Or.inl rfl⟩
      by_cases y0 : y = 0
      · rw [if_pos y0]
        show HR b m len p I Gc Gm (some (-1, G1)) (bX11_end_52 v (lX11_end_52 v (gFu - 1)) M1 m y (nI (p + 1024)))
        unfold bX11_end_52 jX11_end_73
        rw [if_pos y0, if_pos y0]
        exact over
      · rw [if_neg y0]
        have lp : ∀ (d q f1 f2 : Nat), len - q ≤ d → q ≤ len → p + 512 ≤ q → d < f1 → d < f2 → HR b m len p I Gc Gm (lX1_passEnd_65 v f1 G1 (b + 11) (nI q)) (lX11_end_52 v f2 M1 m y (nI q)) := by
          intro d
          induction d with
          | zero =>
            intro q f1 f2 hd hq hpq hf1 hf2
            obtain ⟨f1, rfl⟩ : ∃ f', f1 = f' + 1 := ⟨f1 - 1, by omega⟩
            obtain ⟨f2, rfl⟩ : ∃ f', f2 = f' + 1 := ⟨f2 - 1, by omega⟩
            obtain rfl : q = len := by omega
            obtain ⟨t, t1, t2, t3⟩ := blank_r (v := v) c1 k1 h1 hI1 (p := q) (by omega)
            have tf : t = false := by
              cases t
              · rfl
              · have := t3 rfl; omega
            subst tf
            show HR b m q p I Gc Gm (bX1_passEnd_65 v (lX1_passEnd_65 v f1) G1 (b + 11) (nI q)) (bX11_end_52 v (lX11_end_52 v f2) M1 m y (nI q))
            unfold bX1_passEnd_65 bX11_end_52 jX1_passEnd_97 jX11_end_73
            have e6 : nI q + (512 : Int32) = nI (q + 512) := nI_add q 512
            simp only [gR_at c1.o11 (k := 0) (x := b + 3) rfl, Option.bind_some, rb_count (c1.rA h1), if_neg y0, t2, k1.i 12 rfl, hI1, e6, pk_sub (Nat.le_refl q)]
            rw [if_pos (show nI q - 512 < nI q from Int32.not_le.mp (fun w => by have := (le512 (by omega) h.2.1).mp w; omega)), if_neg (show ¬ (512 : Int32) ≤ nI (q - q) by rw [Nat.sub_self]; decide), if_pos (show bI false = 0 from rfl), if_pos (show nI q < nI (q + 512) from Int32.not_le.mp (nI_ge (by omega) (by omega)))]
            exact over
          | succ d ih =>
            intro q f1 f2 hd hq hpq hf1 hf2
            obtain ⟨f1, rfl⟩ : ∃ f', f1 = f' + 1 := ⟨f1 - 1, by omega⟩
            obtain ⟨f2, rfl⟩ : ∃ f', f2 = f' + 1 := ⟨f2 - 1, by omega⟩
            obtain ⟨t, t1, t2, t3⟩ := blank_r (v := v) c1 k1 h1 hI1 (p := q) (by omega)
            have e6 : nI q + (512 : Int32) = nI (q + 512) := nI_add q 512
            show HR b m len p I Gc Gm (bX1_passEnd_65 v (lX1_passEnd_65 v f1) G1 (b + 11) (nI q)) (bX11_end_52 v (lX11_end_52 v f2) M1 m y (nI q))
            unfold bX1_passEnd_65 bX11_end_52 jX1_passEnd_97 jX11_end_73
            simp only [gR_at c1.o11 (k := 0) (x := b + 3) rfl, Option.bind_some, rb_count (c1.rA h1), if_neg y0, t1, t2, k1.i 12 rfl, hI1, e6, pk_sub hq]
            by_cases w : q + 512 ≤ len
            · rw [if_neg (show ¬ nI len - 512 < nI q from Int32.not_lt.mpr ((le512 (by omega) hl).mpr w)), if_neg (Int32.not_lt.mpr (nI_le w (by omega))), if_pos (show (512 : Int32) ≤ nI (len - q) from nI_le (a := 512) (by omega) (by omega))]
              cases t
              · rw [if_pos (show bI false = 0 from rfl), if_pos (show bI false = 0 from rfl)]
                exact ⟨nI q, G1, M1, _, P, _, J, A, B, fo, rfl, rfl, c1, k1, g1, g2, fs1 (updI_n _ _ (by decide)), Or.inr ⟨q, rfl, hpq, hq, h1, by rw [updI_n _ _ (by decide)], ah1.o (fun _ _ _ => rfl) (fun _ _ _ => rfl) (fun _ _ _ => rfl) rfl (updI_n _ _ (by decide))⟩⟩
              · rw [if_neg (show ¬ bI true = 0 by decide), if_neg (show ¬ bI true = 0 by decide)]
                exact ih (q + 512) f1 f2 (by omega) w (by omega) (by omega) (by omega)
            · have tf : t = false := by
                cases t
                · rfl
                · have := t3 rfl; omega
              subst tf
              rw [if_pos (show nI len - 512 < nI q from Int32.not_le.mp (fun x => w ((le512 (by omega) hl).mp x))), if_neg (show ¬ (512 : Int32) ≤ nI (len - q) from nI_ge (b := 512) (by omega) (by decide)), if_pos (show bI false = 0 from rfl), if_pos (Int32.not_le.mp (nI_ge (by omega) (by omega)))]
              exact over
        exact lp (len - (p + 1024)) (p + 1024) gFu gFu (Nat.le_refl _) (by omega) (by omega) (by unfold gFu; omega) (by unfold gFu; omega)
    · rw [if_neg (show ¬ I 30 = 0 by rw [z]; decide), if_neg (show ¬ I 30 = 0 by rw [z]; decide)]
      refine bad_r (v := v) c1 K (fs1 rfl) 12 (nI p) 12 (nI p) ?_ rfl g1 Fw.rf
      rw [gR_at c1.o11 (k := 6) (x := b + 23) rfl, Option.bind_some]
/-- one step of reading -/
theorem one_r (s : Sta v b Gc) (c : CAt Gc b O P) (K : MAt Gm m I J A B) (h : AE O A len) (hI : I 12 = nI len) (ah : AH O A P B I) (sy : StrsY v b Gc) (fs : FS fo O A P B I) (hp : p ≤ len) (y : Int32) (rd : Nat) (hrd : rd ≤ 64) (Kc : gH → Nat → Int32 → Int32 → Int32 → Option (Int32 × gH)) : ∃ (C : Option (Int32 × gH)), HR b m len p I Gc Gm C (fX11_one v Gm m (nI p) y) ∧ bX1_run_35 v Kc Gc (b + 11) y (nI p) (nI rd) = Option.bind C fun x => Kc x.2 (b + 11) y x.1 (nI (rd + 1)) := by
  have hl := h.2.1
  have o11 := c.o11
  have n64 : ¬ (64 : Int32) < nI rd := Int32.not_lt.mpr (nI_le (b := 64) hrd (by decide))
  have n0 : ¬ nI p < 0 := nI_pos (by omega)
  have i12 : gI Gm m 10 12 = some (nI len) := (K.i 12 rfl).trans (by rw [hI])
  have e5 : nI p + (512 : Int32) = nI (p + 512) := nI_add p 512
  have r6 := gR_at o11 (k := 6) (x := b + 23) rfl
  have r2 := gR_at o11 (k := 2) (x := b + 13) rfl
  unfold bX1_run_35 jX1_run_81 jX1_run_134 fX11_one jX11_one_22
  simp only [if_neg n64, if_neg n0, gR_at o11 (k := 0) (x := b + 3) rfl, Option.bind_some, rb_count (c.rA h), pk_sub hp, r6, r2, tells_r c ah, K.ob, i12, K.i 30 rfl, e5, nI_1]
  by_cases z1 : p = len
  · rw [if_pos (show nI (len - p) = 0 by rw [z1, Nat.sub_self]; rfl), if_neg (show ¬ nI p < nI len from Int32.not_lt.mpr (nI_le (by omega) (by omega)))]
    by_cases z2 : I 30 = 0
    · rw [if_pos z2, if_pos z2]
      refine ⟨Option.bind (fX4_end v Gc (b + 23) 1 (nI p)) fun x2 => some (x2.1, x2.2), bad_r (v := v) c K fs 1 (nI p) 1 (nI p) rfl rfl Fw.rf Fw.rf, ?_⟩
      cases fX4_end v Gc (b + 23) 1 (nI p) <;> rfl
    · rw [if_neg z2, if_neg z2]
      refine ⟨Option.bind (fX4_end v Gc (b + 23) 12 (nI p)) fun x2 => some (x2.1, x2.2), bad_r (v := v) c K fs 12 (nI p) 12 (nI p) rfl rfl Fw.rf Fw.rf, ?_⟩
      cases fX4_end v Gc (b + 23) 12 (nI p) <;> rfl
  · rw [if_neg (show ¬ nI (len - p) = 0 from fun w => z1 (by have := (nI_eq0 (by omega)).mp w; omega)), if_pos (show nI p < nI len from Int32.not_le.mp (nI_ge (by omega) (by omega)))]
    by_cases z3 : p + 512 ≤ len
    · rw [if_pos (show (512 : Int32) ≤ nI (len - p) from nI_le (a := 512) (by omega) (by omega)), if_pos (show nI (p + 512) ≤ nI len from nI_le z3 (by omega))]
      obtain ⟨t, t1, t2, -⟩ := blank_r (v := v) c K h hI hp
      rw [t1, Option.bind_some, t2, Option.bind_some]
      cases t
      · rw [if_pos (show bI false = 0 from rfl), if_pos (show bI false = 0 from rfl)]
        exact ⟨_, head_r (v := v) s c K h hI ah sy fs z3, rfl⟩
      · rw [if_neg (show ¬ bI true = 0 by decide), if_neg (show ¬ bI true = 0 by decide)]
        refine ⟨fX1_passEnd v Gc (b + 11) (nI p) y, ?_, rfl⟩
        have := end_r (v := v) c K h hI ah fs z3 y
        obtain ⟨r, G1, M1, O1, P1, I1, J1, A1, B1, fo1, e1, e2, rest⟩ := this
        exact ⟨r, G1, M1, O1, P1, I1, J1, A1, B1, fo1, e1, by rw [e2, Option.bind_some], rest⟩
    · rw [if_neg (show ¬ (512 : Int32) ≤ nI (len - p) from nI_ge (b := 512) (by omega) (by decide)), if_neg (show ¬ nI (p + 512) ≤ nI len from nI_ge (by omega) (by omega))]
      refine ⟨Option.bind (fX4_end v Gc (b + 23) 2 (nI p)) fun x2 => some (x2.1, x2.2), bad_r (v := v) c K fs 2 (nI p) 2 (nI p) rfl rfl Fw.rf Fw.rf, ?_⟩
      cases fX4_end v Gc (b + 23) 2 (nI p) <;> rfl
/-- what both sides know behind reading -/
def RdX (b m : Nat) (Gc Gm : gH) (C M : Option (Int32 × gH)) : Prop := ∃ (fo : Nat) (Gc' Gm' : gH) (O' : Nat → Nat → Int32) (P' : Nat → Nat → Int64) (I' : Nat → Int32) (J' : Int64) (A' : Nat → Nat → Int32) (B' : Nat → Nat → Int64), C = some (nI fo, Gc') ∧ M = some (nI fo, Gm') ∧ CAt Gc' b O' P' ∧ MAt Gm' m I' J' A' B' ∧ Fw Gc Gc' b 320 ∧ Fw Gm Gm' m 23 ∧ FS fo O' A' P' B' I'
theorem run_r (s : Sta v b Gc) (sy : StrsY v b Gc) (hl : len ≤ 32768) (y : Int32) : ∀ (d rd p f1 f2 : Nat) (G1 M1 : gH) (O : Nat → Nat → Int32) (P : Nat → Nat → Int64) (I : Nat → Int32) (J : Int64) (A : Nat → Nat → Int32) (B : Nat → Nat → Int64) (fo : Nat), rd + d = 65 → 512 * rd ≤ p → p ≤ len → d + 1 < f1 → d + 1 < f2 → CAt G1 b O P → MAt M1 m I J A B → AE O A len → I 12 = nI len → AH O A P B I → FS fo O A P B I → Fw Gc G1 b 320 → Fw Gm M1 m 23 → RdX b m Gc Gm (lX1_run_35 v f1 G1 (b + 11) y (nI p) (nI rd)) (lX11_read_37 v f2 M1 m y (nI p)) := by
  intro d
  induction d with
  | zero => intro rd p f1 f2 G1 M1 O P I J A B fo h1 h2 h3; omega
  | succ d ih =>
    intro rd p f1 f2 G1 M1 O P I J A B fo h1 h2 h3 h4 h5 c K h hI ah fs g1 g2
    obtain ⟨f1, rfl⟩ : ∃ f', f1 = f' + 1 := ⟨f1 - 1, by omega⟩
    obtain ⟨f2, rfl⟩ : ∃ f', f2 = f' + 1 := ⟨f2 - 1, by omega⟩
    obtain ⟨C, ⟨r, G2, M2, O2, P2, I2, J2, A2, B2, fo2, e1, e2, c2, k2, g3, g4, fs2, alt⟩, eC⟩ := one_r (v := v) (s.ag g1.lo) c K h hI ah (sy.ag g1.lo) fs h3 y rd (by omega) (lX1_run_35 v f1)
    have xC : lX1_run_35 v (f1 + 1) G1 (b + 11) y (nI p) (nI rd) = lX1_run_35 v f1 G2 (b + 11) y r (nI (rd + 1)) := by
      show bX1_run_35 v (lX1_run_35 v f1) G1 (b + 11) y (nI p) (nI rd) = _
      rw [eC, e1, Option.bind_some]
    have xM : lX11_read_37 v (f2 + 1) M1 m y (nI p) = lX11_read_37 v f2 M2 m y r := by
      show bX11_read_37 v (lX11_read_37 v f2) M1 m y (nI p) = _
      unfold bX11_read_37
      rw [if_neg (nI_pos (by omega)), e2, Option.bind_some]
    rw [xC, xM]
    rcases alt with rfl | ⟨q, rfl, q1, q2, q3, q4, q5⟩
    · obtain ⟨f1, rfl⟩ : ∃ f', f1 = f' + 1 := ⟨f1 - 1, by omega⟩
      obtain ⟨f2, rfl⟩ : ∃ f', f2 = f' + 1 := ⟨f2 - 1, by omega⟩
      have i7 : gI G2 (b + 11) 1 7 = some (nI fo2) := (gI_at c2.o11 (k := 7) rfl).trans (by rw [fs2.2.1])
      have i19 : gI M2 m 10 19 = some (nI fo2) := (k2.i 19 rfl).trans (by rw [fs2.2.2.1])
      refine ⟨fo2, G2, M2, O2, P2, I2, J2, A2, B2, ?_, ?_, c2, k2, g1.tr g3, g2.tr g4, fs2⟩
      · show bX1_run_35 v (lX1_run_35 v f1) G2 (b + 11) y (-1) (nI (rd + 1)) = _
        unfold bX1_run_35
        rw [i7, Option.bind_some]
        by_cases w : (64 : Int32) < nI (rd + 1)
        · rw [if_pos w]
        · rw [if_neg w, if_pos (by decide)]
      · show bX11_read_37 v (lX11_read_37 v f2) M2 m y (-1) = _
        unfold bX11_read_37
        rw [if_pos (by decide), i19, Option.bind_some]
    · exact ih (rd + 1) q f1 f2 G2 M2 O2 P2 I2 J2 A2 B2 fo2 (by omega) (by omega) q2 (by omega) (by omega) c2 k2 q3 (by rw [q4]; exact hI) q5 fs2 (g1.tr g3) (g2.tr g4)
/-- read -/
theorem read_r (s : Sta v b Gc) (sy : StrsY v b Gc) (c : CAt Gc b O P) (K : MAt Gm m I J A B) (ar : Ar3 O A I) (y : Int32) : RdX b m Gc Gm (fX10_read v Gc b y) (fX11_read v Gm m y) := by
  obtain ⟨len, l1, l2, l3, l4⟩ := ar
  have h : AE O A len := ⟨l2, l1, l4⟩
  have o11 := c.o11
  -- the class
  obtain ⟨G1, e1, c1, g1'⟩ := c.ti (tm_F0 (b := b) (x := 0))
  obtain ⟨G2, e2, c2, g2'⟩ := c1.ti (tm_F1 (b := b) (x := 0))
  obtain ⟨G3, O3, P3, e3, c3, g3, o3, p3, u1, u2, u3, u4⟩ := c_forget (v := v) (k := 13) c2 (Or.inl rfl)
  obtain ⟨G4, O4, P4, e4, c4, g4, o4, p4, w1, w2, w3, w4⟩ := c_forget (v := v) (k := 18) c3 (Or.inr rfl)
  obtain ⟨G5, e5, c5, g5'⟩ := c4.ti (tm_D7 (b := b) (x := 0))
  obtain ⟨G6, e6, c6, g6'⟩ := c5.ti (tm_D8 (b := b) (x := 0))
  have g1 : Fw Gc G1 b 320 := ⟨g1'.1, fun q hq => g1'.2 q (by omega)⟩
  have g2 : Fw G1 G2 b 320 := ⟨g2'.1, fun q hq => g2'.2 q (by omega)⟩
  have g5 : Fw G4 G5 b 320 := ⟨g5'.1, fun q hq => g5'.2 q (by omega)⟩
  have g6 : Fw G5 G6 b 320 := ⟨g6'.1, fun q hq => g6'.2 q (by omega)⟩
  -- the reference
  obtain ⟨M1, x1, k1, h1⟩ := K.pi 17 0 rfl
  obtain ⟨M2, x2, k2, h2⟩ := k1.pi 18 0 rfl
  obtain ⟨M3, x3, k3, h3⟩ := k2.pi 19 0 rfl
  obtain ⟨M4, x4, k4, h4⟩ := k3.pi 20 0 rfl
  obtain ⟨M5, A5, x5, k5, h5, s1, s2, s3, s4⟩ := m_forgetR (v := v) (g := 0) k4 (by decide)
  obtain ⟨M6, A6, x6, k6, h6, t1, t2, t3, t4⟩ := m_forgetR (v := v) (g := 1) k5 (by decide)
  obtain ⟨M7, x7, k7, h7⟩ := k6.pi 30 0 rfl
  have oo : ∀ q, q < 11 → uO (uO O4 11 7 0) 11 8 0 q = O q := fun q hq => by
    rw [uO_n (by omega), uO_n (by omega), o4 q (by omega), o3 q (by omega), uO_n (by omega), uO_n (by omega)]
  have o13 : ∀ q, 13 ≤ q → uO (uO O4 11 7 0) 11 8 0 q = O4 q := fun q hq => by rw [uO_n (by omega), uO_n (by omega)]
  have hAE : AE (uO (uO O4 11 7 0) 11 8 0) A6 len := h.o (oo 3 (by decide)) (oo 4 (by decide)) (funext (fun j => by rw [t4 10 j (by omega) (by omega) (by omega), s4 10 j (by omega) (by omega) (by omega)]))
  have z1 : O4 14 1 = nI 0 := by rw [o4 14 (by decide)]; exact u1
  have z2 : O4 16 1 = nI 0 := by rw [o4 16 (by decide)]; exact u2
  have z3 : ∀ w, w < 3 → P4 13 (2 + w) = -1 := fun w hw => by rw [p4 13 (by decide)]; exact u3 w hw
  have z4 : O4 13 5 = 0 := by rw [o4 13 (by decide)]; exact u4
  have hAH : AH (uO (uO O4 11 7 0) 11 8 0) A6 P4 B (upd (upd (upd (upd (upd I 17 0) 18 0) 19 0) 20 0) 30 0) := by
    refine ⟨AhR.z ?_ ?_ z3 ?_ ?_ ?_ (fun w hw => ?_), AhR.z ?_ ?_ w3 ?_ t1 t2 t3, Or.inl ⟨updI_s _ _ _, ?_, ?_, z3, ?_⟩⟩
    · rw [o13 _ (by decide)]; exact z1
    · rw [o13 _ (by decide)]; exact z2
    · rw [o13 _ (by decide)]; exact z4
    · rw [t4 17 0 (by omega) (by omega) (by omega)]; exact s1
    · rw [t4 19 0 (by omega) (by omega) (by omega)]; exact s2
    · rw [t4 20 _ (by omega) (by omega) (by omega)]; exact s3 w hw
    · rw [o13 _ (by decide)]; exact w1
    · rw [o13 _ (by decide)]; exact w2
    · rw [o13 _ (by decide)]; exact w4
    · rw [o13 _ (by decide)]; exact z1
    · rw [o13 _ (by decide)]; exact z2
    · rw [o13 _ (by decide)]; exact z4
  have hFS : FS 0 (uO (uO O4 11 7 0) 11 8 0) A6 P4 B (upd (upd (upd (upd (upd I 17 0) 18 0) 19 0) 20 0) 30 0) := by
    refine ⟨by decide, ?_, ?_, fun i hi => absurd hi (Nat.not_lt_zero _)⟩
    · rw [uO_s, updI_n _ _ (by decide), uO_s, updI_s]
      rfl
    · rw [updI_n _ _ (by decide), updI_n _ _ (by decide), updI_s]
      rfl
  have hI : (upd (upd (upd (upd (upd I 17 0) 18 0) 19 0) 20 0) 30 0) 12 = nI len := by
    rw [updI_n _ _ (by decide), updI_n _ _ (by decide), updI_n _ _ (by decide), updI_n _ _ (by decide), updI_n _ _ (by decide)]
    exact l3
  have go := run_r (v := v) (len := len) (b := b) (m := m) s sy l1 y 65 0 0 gFu gFu G6 M7 _ _ _ _ _ _ 0 rfl (by omega) (by omega) (by unfold gFu; omega) (by unfold gFu; omega) c6 k7 hAE hI hAH hFS (((((g1.tr g2).tr g3).tr g4).tr g5).tr g6) ((((((h1.tr h2).tr h3).tr h4).tr h5).tr h6).tr h7)
  have eC : fX10_read v Gc b y = lX1_run_35 v gFu G6 (b + 11) y (nI 0) (nI 0) := by
    have f4 : fX4_forget v Gc (b + 23) = some G2 := by
      unfold fX4_forget
      rw [gOb_at (c.o 23 (by decide) rfl), Option.bind_some, e1, Option.bind_some, e2, Option.bind_some]
    unfold fX10_read fX1_run
    rw [gOb_at c.t0, Option.bind_some, gR_at c.t0 (k := 5) (x := b + 11) rfl, Option.bind_some, gOb_at o11, Option.bind_some, gR_at o11 (k := 6) (x := b + 23) rfl, Option.bind_some, f4, Option.bind_some, gR_at c2.o11 (k := 2) (x := b + 13) rfl, Option.bind_some, e3, Option.bind_some, gR_at c3.o11 (k := 3) (x := b + 18) rfl, Option.bind_some, e4, Option.bind_some, e5, Option.bind_some, e6, Option.bind_some]
    show Option.bind (lX1_run_35 v gFu G6 (b + 11) y (nI 0) (nI 0)) (fun x2 => some (x2.1, x2.2)) = _
    cases lX1_run_35 v gFu G6 (b + 11) y (nI 0) (nI 0) <;> rfl
  have eM : fX11_read v Gm m y = lX11_read_37 v gFu M7 m y (nI 0) := by
    unfold fX11_read
    rw [K.ob, Option.bind_some, x1, Option.bind_some, x2, Option.bind_some, x3, Option.bind_some, x4, Option.bind_some, show fX11_forget v M4 m 0 = some M5 from x5, Option.bind_some, show fX11_forget v M5 m 1 = some M6 from x6, Option.bind_some, gZ_0, Option.bind_some, x7, Option.bind_some]
    rfl
  rw [eC, eM]
  exact go
end RR2
/-! PURE: found and letter, on both sides -/
section FO
variable {v : Nat → Nat} {G : gH} {b m fo : Nat} {O O' : Nat → Nat → Int32} {P P' : Nat → Nat → Int64} {I I' : Nat → Int32} {J J' : Int64} {A A' : Nat → Nat → Int32} {B B' : Nat → Nat → Int64}
theorem FS.eq2 (h : FS fo O A P B I) (hO : ∀ q, 11 ≤ q → q < 266 → O' q = O q) (hP : ∀ q, 11 ≤ q → q < 266 → P' q = P q) (hB : B' 13 = B 13) (a1 : A' 14 = A 14) (a2 : A' 15 = A 15) (hI : I' 19 = I 19) : FS fo O' A' P' B' I' := by
  obtain ⟨h1, h2, h3, h4⟩ := h
  exact ⟨h1, by rw [hO 11 (by decide) (by decide)]; exact h2, by rw [hI]; exact h3, fun i hi => (h4 i hi).eq (fun q q1 q2 => hO q (by omega) (by omega)) (hP _ (by omega) (by omega)) (fun w _ => by rw [hB]) (fun j _ => by rw [a1]) (fun j _ => by rw [a2])⟩
/-- the cells say what they hold -/
theorem CAt.uR (c : CAt G b O P) (c' : CAt G b O' P') {k : Nat} (hk : rkB k = true) : O' k 1 = O k 1 ∧ O' (k + 1) = O (k + 1) := by
  have hlt := rkB_lt hk
  have o := (c.o k (by omega) (cOb_row hk)).symm.trans (c'.o k (by omega) (cOb_row hk))
  have a := (c.a (k + 1) hlt (cAr_row hk)).symm.trans (c'.a (k + 1) hlt (cAr_row hk))
  have q := (Prod.mk.inj (Option.some.inj o)).2
  have e2 : (fun j => Value.int (O (k + 1) j)) = fun j => Value.int (O' (k + 1) j) := (Prod.mk.inj (Prod.mk.inj (Prod.mk.inj (Option.some.inj a)).2).2).2
  exact ⟨(Value.int.inj (List.cons.inj (List.cons.inj q).2).1).symm, funext (fun j => (Value.int.inj (congrFun e2 j)).symm)⟩
theorem CAt.uL (c : CAt G b O P) (c' : CAt G b O' P') {i : Nat} (hi : i < 40) : P' (27 + 6 * i) = P (27 + 6 * i) := by
  have hk : fkB (26 + 6 * i) = true := fkB_iff.mpr (by omega)
  have a := (c.a (26 + 6 * i + 1) (by omega) (cAr_f hk)).symm.trans (c'.a (26 + 6 * i + 1) (by omega) (cAr_f hk))
  have e2 : (fun j => Value.long (P (26 + 6 * i + 1) j)) = fun j => Value.long (P' (26 + 6 * i + 1) j) := (Prod.mk.inj (Prod.mk.inj (Prod.mk.inj (Option.some.inj a)).2).2).2
  rw [show 27 + 6 * i = 26 + 6 * i + 1 by omega]
  exact funext (fun j => (Value.long.inj (congrFun e2 j)).symm)
theorem CAt.u11 (c : CAt G b O P) (c' : CAt G b O' P') : O' 11 7 = O 11 7 := by
  have o : gI G (b + 11) 1 7 = some (O 11 7) := gI_at c.o11 rfl
  have o' : gI G (b + 11) 1 7 = some (O' 11 7) := gI_at c'.o11 rfl
  exact Option.some.inj (o'.symm.trans o)
theorem FS.uq {G1 G2 : gH} (h : FS fo O A P B I) (c : CAt G1 b O P) (c' : CAt G1 b O' P') (k : MAt G2 m I J A B) (k' : MAt G2 m I' J' A' B') : FS fo O' A' P' B' I' := by
  obtain ⟨h1, h2, h3, h4⟩ := h
  have e19 : I' 19 = I 19 := Option.some.inj ((k'.i 19 rfl).symm.trans (k.i 19 rfl))
  refine ⟨h1, by rw [c.u11 c']; exact h2, by rw [e19]; exact h3, fun i hi => ?_⟩
  have hi40 : i < 40 := by omega
  obtain ⟨f1, ⟨u, u1, u2, u3, u4⟩, w, w1, w2, w3, w4⟩ := h4 i hi
  have eB : ∀ x, x < 12 → B' 13 (12 * i + x) = B 13 (12 * i + x) := fun x hx => Option.some.inj ((k'.ldl 13 (j := 12 * i + x) (by decide) (show 12 * i + x < 480 by omega)).symm.trans (k.ldl 13 (j := 12 * i + x) (by decide) (show 12 * i + x < 480 by omega)))
  have e14 : ∀ x, x < 400 → A' 14 (400 * i + x) = A 14 (400 * i + x) := fun x hx => Option.some.inj ((k'.ld 14 (ty := .int) (j := 400 * i + x) (by decide) rfl (show 400 * i + x < 16000 by omega)).symm.trans (k.ld 14 (ty := .int) (j := 400 * i + x) (by decide) rfl (show 400 * i + x < 16000 by omega)))
  have e15 : ∀ x, x < 400 → A' 15 (400 * i + x) = A 15 (400 * i + x) := fun x hx => Option.some.inj ((k'.ld 15 (ty := .int) (j := 400 * i + x) (by decide) rfl (show 400 * i + x < 16000 by omega)).symm.trans (k.ld 15 (ty := .int) (j := 400 * i + x) (by decide) rfl (show 400 * i + x < 16000 by omega)))
  have rN := c.uR c' (rk_f hi40).1.1
  have rL := c.uR c' (rk_f hi40).2.1
  refine ⟨fun x hx => by rw [c.uL c' hi40, eB x hx]; exact f1 x hx, ⟨u, u1, by rw [rN.1]; exact u2, by rw [eB 9 (by decide)]; exact u3, fun j hj => ?_⟩, w, w1, by rw [rL.1]; exact w2, by rw [eB 10 (by decide)]; exact w3, fun j hj => ?_⟩
  · rw [show 29 + 6 * i = 28 + 6 * i + 1 by omega, rN.2, e14 j (by omega), show 28 + 6 * i + 1 = 29 + 6 * i by omega]
    exact u4 j hj
  · rw [show 31 + 6 * i = 30 + 6 * i + 1 by omega, rL.2, e15 j (by omega), show 30 + 6 * i + 1 = 31 + 6 * i by omega]
    exact w4 j hj
theorem c_fat (c : CAt G b O P) (h : O 11 7 = nI fo) (hf : fo ≤ 40) (x : Int32) : (x < 0 → fX1_at v G (b + 11) x = some none) ∧ ∀ i, i < 2 ^ 31 → x = nI i → fX1_at v G (b + 11) x = some (if i < fo then some (b + (26 + 6 * i)) else none) := by
  have o11 := c.o11
  have i7 : gI G (b + 11) 1 7 = some (nI fo) := (gI_at o11 (k := 7) rfl).trans (by rw [h])
  have a12 := c.a 12 (by decide) (e := (.object "TarForms$Found", true, 40, alF b)) rfl
  refine ⟨fun q => ?_, fun i hi hx => ?_⟩
  · unfold fX1_at
    rw [gOb_at o11, Option.bind_some, if_pos q]
  · subst hx
    unfold fX1_at
    rw [gOb_at o11, Option.bind_some, if_neg (nI_pos hi), i7, Option.bind_some]
    by_cases z : i < fo
    · have eR : gLdR G "TarForms$Found" (b + 12) (nI i) = some (b + (26 + 6 * i)) := ld_ref a12 (by omega) (by decide) (by unfold alF; rw [if_pos (by omega), Nat.add_assoc])
      rw [if_neg (nI_ge z (by omega)), gR_at o11 (k := 1) (x := b + 12) rfl, Option.bind_some, len_at a12, Option.bind_some, if_neg (nI_ge (by omega) (by decide)), Option.bind_some, eR, Option.bind_some, if_pos z]
    · rw [if_pos (nI_le (by omega) hi), if_neg z]
theorem a_found (c : CAt G b O P) (k : MAt G m I J A B) (fs : FS fo O A P B I) (x y : Int32) : ∃ r, fX10_found v G b x y = some r ∧ fX11_found v G m x y = some r := by
  obtain ⟨h1, h2, h3, h4⟩ := fs
  refine ⟨_, ?_, m_found (v := v) k h3 h1 x y⟩
  have o := c.t0
  unfold fX10_found mFd
  rw [gOb_at o, Option.bind_some, gR_at o (k := 5) (x := b + 11) rfl, Option.bind_some]
  obtain ⟨f1, f2⟩ := c_fat (v := v) c h2 h1 x
  by_cases x0 : x < 0
  · rw [if_pos x0, f1 x0, Option.bind_some]
    rfl
  · obtain ⟨i, hi, rfl⟩ := nI_of x0
    rw [if_neg x0, f2 i hi rfl, Option.bind_some]
    by_cases z : i < fo
    · have hkf : fkB (26 + 6 * i) = true := fkB_iff.mpr (by omega)
      have one := c.o (26 + 6 * i) (by omega) (cOb_f hkf)
      have arr : G.1 (b + (26 + 6 * i) + 1) = some (.long, true, 12, fun j => .long (P (26 + 6 * i + 1) j)) := c.a (26 + 6 * i + 1) (by omega) (cAr_f hkf)
      rw [if_pos z, if_neg (nI_ge z (by omega))]
      show (if y < 0 then some (-9000000000000000000 : Int64) else _) = _
      by_cases y0 : y < 0
      · rw [if_pos y0, if_pos y0]
      · obtain ⟨w, hw, rfl⟩ := nI_of y0
        rw [if_neg y0, if_neg y0, gR_at one (k := 0) (x := b + (26 + 6 * i) + 1) rfl, Option.bind_some, len_at arr, Option.bind_some]
        by_cases w12 : w < 12
        · rw [if_pos (Int32.not_le.mp (nI_ge w12 (by decide))), Option.bind_some, ld_lng arr w12 (by decide) rfl, Option.bind_some, if_pos (show nI w ≤ 11 from nI_le (b := 11) (by omega) (by decide)), nI_toInt hi, nI_toInt hw]
          show some (P (26 + 6 * i + 1) w) = some (B 13 (12 * i + w))
          rw [show 26 + 6 * i + 1 = 27 + 6 * i by omega, (h4 i z).1 w w12]
        · rw [if_neg (Int32.not_lt.mpr (nI_le (by omega) hw)), if_neg (show ¬ nI w ≤ 11 from nI_ge (a := 11) (by omega) hw)]
    · rw [if_neg z, if_pos (nI_le (by omega) hi)]
      rfl
theorem a_letter (c : CAt G b O P) (k : MAt G m I J A B) (fs : FS fo O A P B I) (x y z : Int32) : ∃ r, fX10_letter v G b x y z = some r ∧ fX11_letter v G m x y z = some r := by
  obtain ⟨h1, h2, h3, h4⟩ := fs
  have o := c.t0
  obtain ⟨f1, f2⟩ := c_fat (v := v) c h2 h1 x
  have i19 : gI G m 10 19 = some (nI fo) := (k.i 19 rfl).trans (by rw [h3])
  unfold fX10_letter fX11_letter
  rw [gOb_at o, Option.bind_some, gR_at o (k := 5) (x := b + 11) rfl, Option.bind_some, k.ob, Option.bind_some]
  by_cases x0 : x < 0
  · rw [if_pos x0, f1 x0, Option.bind_some]
    exact ⟨-1, rfl, rfl⟩
  · obtain ⟨i, hi, rfl⟩ := nI_of x0
    rw [if_neg x0, f2 i hi rfl, Option.bind_some, i19, Option.bind_some]
    by_cases q : i < fo
    · have hi40 : i < 40 := by omega
      have hkf : fkB (26 + 6 * i) = true := fkB_iff.mpr (by omega)
      have one := c.o (26 + 6 * i) (by omega) (cOb_f hkf)
      obtain ⟨-, ⟨u, u1, u2, u3, u4⟩, w, w1, w2, w3, w4⟩ := h4 i q
      have rN : RowB G (b + (28 + 6 * i)) 400 u (fun j => A 14 (400 * i + j)) := by
        have := c.rt (rk_f hi40).1.1 u2 (by omega)
        rw [(rk_f hi40).1.2] at this
        exact ⟨_, this, fun j hj => by rw [show 28 + 6 * i + 1 = 29 + 6 * i by omega]; exact u4 j hj⟩
      have rL : RowB G (b + (30 + 6 * i)) 400 w (fun j => A 15 (400 * i + j)) := by
        have := c.rt (rk_f hi40).2.1 w2 (by omega)
        rw [(rk_f hi40).2.2] at this
        exact ⟨_, this, fun j hj => by rw [show 30 + 6 * i + 1 = 31 + 6 * i by omega]; exact w4 j hj⟩
      have p1 : gR G (b + (26 + 6 * i)) 5 1 = some (b + (28 + 6 * i)) := (gR_at one (k := 1) rfl).trans (by rw [show b + (26 + 6 * i) + 2 = b + (28 + 6 * i) by omega])
      have p2 : gR G (b + (26 + 6 * i)) 5 2 = some (b + (30 + 6 * i)) := (gR_at one (k := 2) rfl).trans (by rw [show b + (26 + 6 * i) + 4 = b + (30 + 6 * i) by omega])
      have i12 : (12 : Int32) * nI i = nI (12 * i) := by rw [show (12 : Int32) = nI 12 from rfl, nI_mul]
      have j9 : nI (12 * i) + (9 : Int32) = nI (12 * i + 9) := nI_add _ _
      have j10 : nI (12 * i) + (10 : Int32) = nI (12 * i + 10) := nI_add _ _
      have l9 := k.ldl 13 (j := 12 * i + 9) (by decide) (show 12 * i + 9 < 480 by omega)
      have l10 := k.ldl 13 (j := 12 * i + 10) (by decide) (show 12 * i + 10 < 480 by omega)
      rw [u3] at l9
      rw [w3] at l10
      have r21 := k.r 21 13 rfl (by decide)
      have r22 := k.r 22 14 rfl (by decide)
      have r23 := k.r 23 15 rfl (by decide)
      rw [if_pos q, if_neg (nI_ge q (by omega))]
      show ∃ r, (if y = 0 then _ else _) = some r ∧ _
      rw [p1, Option.bind_some, p2, Option.bind_some]
      unfold jX11_letter_37
      simp only [r21, Option.bind_some, i12, j9, j10, l9, l10, r22, r23]
      by_cases z0 : z < 0
      · rw [if_pos z0]
        obtain ⟨fN, aN, -⟩ := rN
        obtain ⟨fL, aL, -⟩ := rL
        rw [r_at aN, rAt_neg z0, r_at aL, rAt_neg z0]
        by_cases y0 : y = 0
        · rw [if_pos y0]; exact ⟨-1, rfl, rfl⟩
        · rw [if_neg y0]; exact ⟨-1, rfl, rfl⟩
      · obtain ⟨t, ht, rfl⟩ := nI_of z0
        have lt : ∀ n, n < 2 ^ 31 → (((nI t).toInt64 < (nI n).toInt64) ↔ t < n) := fun n hn => by
          rw [Int64.lt_iff_toInt_lt, Int32.toInt_toInt64, Int32.toInt_toInt64, nI_toInt ht, nI_toInt hn]
          omega
        rw [if_neg z0]
        by_cases y0 : y = 0
        · rw [if_pos y0, if_pos y0]
          by_cases tu : t < u
          · rw [rb_at rN tu, Option.bind_some, if_pos ((lt u (by omega)).mpr tu), if_pos y0, ix400, k.ld 14 (ty := .int) (j := 400 * i + t) (by decide) rfl (show 400 * i + t < 16000 by omega), Option.bind_some]
            exact ⟨_, rfl, rfl⟩
          · rw [rb_out rN (by omega) ht, Option.bind_some, if_neg (fun s => tu ((lt u (by omega)).mp s))]
            exact ⟨-1, rfl, rfl⟩
        · rw [if_neg y0, if_neg y0]
          by_cases tu : t < w
          · rw [rb_at rL tu, Option.bind_some, if_pos ((lt w (by omega)).mpr tu), if_neg y0, ix400, k.ld 15 (ty := .int) (j := 400 * i + t) (by decide) rfl (show 400 * i + t < 16000 by omega), Option.bind_some]
            exact ⟨_, rfl, rfl⟩
          · rw [rb_out rL (by omega) ht, Option.bind_some, if_neg (fun s => tu ((lt w (by omega)).mp s))]
            exact ⟨-1, rfl, rfl⟩
    · rw [if_neg q, if_pos (nI_le (by omega) hi)]
      exact ⟨-1, rfl, rfl⟩
end FO
