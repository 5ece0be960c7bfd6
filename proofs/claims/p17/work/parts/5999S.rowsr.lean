/-! PURE: ROWS, read on both sides -/
def US : List Int32 := [117, 115, 116, 97, 114]
def SZ : List Int32 := [115, 105, 122, 101]
def StrsY (v : Nat → Nat) (b : Nat) (G : gH) : Prop := StrsX v b G ∧ StrX b G (v 10) US ∧ StrX b G (v 18) SZ
theorem StrsY.ag {v : Nat → Nat} {b : Nat} {G G' : gH} (h : StrsY v b G) (k : ∀ q, q < b → G'.1 q = G.1 q ∧ G'.2.1 q = G.2.1 q) : StrsY v b G' := ⟨h.1.ag k, h.2.1.ag k, h.2.2.ag k⟩
def kyB (KK : Int64) (n i : Nat) : Int64 := ((KK.toUInt64 >>> (((8 : Int32) * ((nI n - (1 : Int32)) - nI i)).toInt64.toUInt64 &&& Int64.toUInt64 63)).toInt64) &&& (255 : Int64)
def KeyR (KK : Int64) (l : List Int32) : Prop := (1 ≤ l.length ∧ l.length ≤ 8) ∧ ∀ i, i < l.length → kyB KK l.length i = (l.getD i 0).toInt64
theorem ky_PA : KeyR 1885434984 PA := by unfold KeyR kyB PA; decide +kernel
theorem ky_LK : KeyR 7811896436376826984 LK := by unfold KeyR kyB LK; decide +kernel
theorem ky_UI : KeyR 7694692 UI := by unfold KeyR kyB UI; decide +kernel
theorem ky_GI : KeyR 6777188 GI := by unfold KeyR kyB GI; decide +kernel
theorem ky_SZ : KeyR 1936292453 SZ := by unfold KeyR kyB SZ; decide +kernel
theorem ky_MT : KeyR 470104501605 MT := by unfold KeyR kyB MT; decide +kernel
section RY
variable {v : Nat → Nat} {G Gc Gm : gH} {b m len k g p e cap u a : Nat} {gg : Nat → Int32} {l : List Int32} {O : Nat → Nat → Int32} {P : Nat → Nat → Int64} {I : Nat → Int32} {J : Int64} {A : Nat → Nat → Int32} {B : Nat → Nat → Int64}
theorem rb_holds {s : Nat} (h : RowB G a cap u gg) (hS : StrAt G s l) (hpe : p ≤ e) (heu : e ≤ u) : ∃ q : Bool, fX7_holds v G a (nI p) (nI e) s = some (bI q) ∧ (q = true ↔ (e = p + l.length ∧ ∀ i, i < l.length → gg (p + i) = l.getD i 0)) := by
  have hl := h.le
  have h3 : l.length < 2 ^ 31 := by obtain ⟨d, h1, h2, h3, h4⟩ := hS; exact h3
  by_cases z : e = p + l.length
  · have lp : ∀ (d i f : Nat), i + d = l.length → d < f → ∃ q : Bool, lX7_holds_15 v G f a (nI p) s (nI i) = some (bI q) ∧ (q = true ↔ ∀ j, i ≤ j → j < l.length → gg (p + j) = l.getD j 0) := by
      intro d
      induction d with
      | zero =>
        intro i f hi hf
        obtain ⟨f, rfl⟩ : ∃ f', f = f' + 1 := ⟨f - 1, by omega⟩
        refine ⟨true, ?_, ⟨fun _ j h1 h2 => by omega, fun _ => rfl⟩⟩
        show bX7_holds_15 v G (lX7_holds_15 v G f) a (nI p) s (nI i) = _
        unfold bX7_holds_15
        rw [str_len hS, Option.bind_some, if_pos (nI_le (by omega) (by omega)), gZ_1, Option.bind_some]
        rfl
      | succ d ih =>
        intro i f hi hf
        obtain ⟨f, rfl⟩ : ∃ f', f = f' + 1 := ⟨f - 1, by omega⟩
        obtain ⟨q, e1, e2⟩ := ih (i + 1) f (by omega) (by omega)
        have n1 : ¬ nI l.length ≤ nI i := nI_ge (by omega) h3
        have a1 := rb_at (v := v) h (j := p + i) (by omega)
        have key : lX7_holds_15 v G (f + 1) a (nI p) s (nI i) = if gg (p + i) = l.getD i 0 then some (bI q) else some 0 := by
          show bX7_holds_15 v G (lX7_holds_15 v G f) a (nI p) s (nI i) = _
          unfold bX7_holds_15
          simp only [str_len hS, Option.bind_some, if_neg n1, nI_add, a1, str_at hS (show i < l.length by omega), nI_1, e1, gZ_0]
        by_cases w : gg (p + i) = l.getD i 0
        · refine ⟨q, by rw [key, if_pos w], ⟨fun y j h1 h2 => ?_, fun y => e2.mpr (fun j h1 h2 => y j (by omega) h2)⟩⟩
          by_cases x : j = i
          · rw [x]; exact w
          · exact e2.mp y j (by omega) h2
        · refine ⟨false, by rw [key, if_neg w]; rfl, ⟨fun y => absurd y (by decide), fun y => absurd (y i (Nat.le_refl _) (by omega)) w⟩⟩
    obtain ⟨q, e1, e2⟩ := lp l.length 0 gFu (by omega) (by unfold gFu; omega)
    refine ⟨q, ?_, ⟨fun y => ⟨z, fun i hi => e2.mp y i (by omega) hi⟩, fun y => e2.mpr (fun j _ h2 => y.2 j h2)⟩⟩
    unfold fX7_holds
    rw [h.ob, Option.bind_some, str_len hS, Option.bind_some, pk_sub hpe, if_pos (by rw [z, Nat.add_sub_cancel_left])]
    exact e1
  · refine ⟨false, ?_, ⟨fun y => absurd y (by decide), fun y => absurd y.1 z⟩⟩
    unfold fX7_holds
    rw [h.ob, Option.bind_some, str_len hS, Option.bind_some, pk_sub hpe, if_neg (fun y => z (by have := (nI_eq (by omega) h3).mp y; omega)), gZ_0, Option.bind_some]
    rfl
theorem i64_inj {x y : Int32} (h : x.toInt64 = y.toInt64) : x = y := Int32.toInt_inj.mp (by rw [← Int32.toInt_toInt64, ← Int32.toInt_toInt64, h])
theorem m_key (K : MAt Gm m I J A B) {KK : Int64} (hK : KeyR KK l) (hpe : p ≤ e) (he : e ≤ 32768) : ∃ q : Bool, fX11_isKey v Gm m (nI p) (nI e) KK (nI l.length) = some (bI q) ∧ (q = true ↔ (e = p + l.length ∧ ∀ i, i < l.length → A 10 (p + i) = l.getD i 0)) := by
  obtain ⟨⟨l1, l8⟩, hk⟩ := hK
  have hr := K.r 11 10 rfl (by decide)
  by_cases z : e = p + l.length
  · have dead : ∀ (i f : Nat), i ≤ l.length → 0 < f → lX11_isKey_18 v Gm f m (nI p) KK (nI l.length) 0 (nI i) = some 0 := by
      intro i f hi hf
      obtain ⟨f, rfl⟩ : ∃ f', f = f' + 1 := ⟨f - 1, by omega⟩
      show bX11_isKey_18 v Gm (lX11_isKey_18 v Gm f) m (nI p) KK (nI l.length) 0 (nI i) = _
      unfold bX11_isKey_18
      rw [gZ_0, Option.bind_some]
      by_cases w : nI l.length ≤ nI i
      · rw [if_pos w]
      · rw [if_neg w, if_pos rfl]
    have lp : ∀ (d i f : Nat), i + d = l.length → d < f → ∃ q : Bool, lX11_isKey_18 v Gm (f + 1) m (nI p) KK (nI l.length) 1 (nI i) = some (bI q) ∧ (q = true ↔ ∀ j, i ≤ j → j < l.length → A 10 (p + j) = l.getD j 0) := by
      intro d
      induction d with
      | zero =>
        intro i f hi hf
        refine ⟨true, ?_, ⟨fun _ j h1 h2 => by omega, fun _ => rfl⟩⟩
        show bX11_isKey_18 v Gm (lX11_isKey_18 v Gm f) m (nI p) KK (nI l.length) 1 (nI i) = _
        unfold bX11_isKey_18
        rw [if_pos (nI_le (by omega) (by omega)), gZ_1, Option.bind_some]
        rfl
      | succ d ih =>
        intro i f hi hf
        obtain ⟨f, rfl⟩ : ∃ f', f = f' + 1 := ⟨f - 1, by omega⟩
        obtain ⟨q, e1, e2⟩ := ih (i + 1) f (by omega) (by omega)
        have n1 : ¬ nI l.length ≤ nI i := nI_ge (by omega) (by omega)
        have n2 : ¬ (1 : Int32) = 0 := by decide
        have a1 := at_m K (j := p + i) (by omega)
        have key : lX11_isKey_18 v Gm (f + 1 + 1) m (nI p) KK (nI l.length) 1 (nI i) = if (A 10 (p + i)).toInt64 = kyB KK l.length i then some (bI q) else some 0 := by
          show bX11_isKey_18 v Gm (lX11_isKey_18 v Gm (f + 1)) m (nI p) KK (nI l.length) 1 (nI i) = _
          unfold bX11_isKey_18 jX11_isKey_65
          simp only [if_neg n1, if_neg n2, hr, Option.bind_some, nI_add, a1, nI_1, e1, dead (i + 1) (f + 1) (by omega) (by omega)]
          rfl
        rw [hk i (by omega)] at key
        by_cases w : A 10 (p + i) = l.getD i 0
        · refine ⟨q, by rw [key, if_pos (by rw [w])], ⟨fun y j h1 h2 => ?_, fun y => e2.mpr (fun j h1 h2 => y j (by omega) h2)⟩⟩
          by_cases x : j = i
          · rw [x]; exact w
          · exact e2.mp y j (by omega) h2
        · refine ⟨false, by rw [key, if_neg (fun y => w (i64_inj y))]; rfl, ⟨fun y => absurd y (by decide), fun y => absurd (y i (Nat.le_refl _) (by omega)) w⟩⟩
    obtain ⟨q, e1, e2⟩ := lp l.length 0 (gFu - 1) (by omega) (by unfold gFu; omega)
    refine ⟨q, ?_, ⟨fun y => ⟨z, fun i hi => e2.mp y i (by omega) hi⟩, fun y => e2.mpr (fun j _ h2 => y.2 j h2)⟩⟩
    unfold fX11_isKey jX11_isKey_13
    rw [K.ob, Option.bind_some, pk_sub hpe, if_pos (by rw [z, Nat.add_sub_cancel_left])]
    exact e1
  · refine ⟨false, ?_, ⟨fun y => absurd y (by decide), fun y => absurd y.1 z⟩⟩
    unfold fX11_isKey jX11_isKey_13
    rw [K.ob, Option.bind_some, pk_sub hpe, if_neg (fun y => z (by have := (nI_eq (by omega) (by omega)).mp y; omega))]
    show bX11_isKey_18 v Gm (lX11_isKey_18 v Gm (gFu - 1)) m (nI p) KK (nI l.length) 0 (nI 0) = _
    unfold bX11_isKey_18
    rw [if_neg (nI_ge (by omega) (by omega)), if_pos rfl, gZ_0, Option.bind_some]
    rfl
/-- a key, on both sides -/
theorem key_2 (c : CAt Gc b O P) (K : MAt Gm m I J A B) (h : AE O A len) {KK : Int64} {s : Nat} (hS : StrX b Gc s l) (hK : KeyR KK l) {t : Nat} (ha : O 25 2 = nI p) (hf : O 25 3 = nI (e + 1)) (hpe : p ≤ e) (hel : e ≤ len) : ∃ q : Bool, fX8_isKey v Gc (b + 25) s = some (bI q) ∧ fX11_isKey v Gm m (nI p) (nI e) KK (nI l.length) = some (bI q) ∧ (q = true → e = p + l.length) := by
  have hl := h.2.1
  obtain ⟨q, e1, e2⟩ := rb_holds (v := v) (c.rA h) hS.st hpe hel
  obtain ⟨q', e3, e4⟩ := m_key (v := v) K hK hpe (by omega)
  have eq : q' = q := by
    cases q <;> cases q'
    · rfl
    · exact absurd (e2.mpr (e4.mp rfl)) (by decide)
    · exact absurd (e4.mpr (e2.mp rfl)) (by decide)
    · rfl
  subst eq
  refine ⟨q', ?_, e3, fun z => (e2.mp z).1⟩
  unfold fX8_isKey
  rw [gOb_at c.o25, Option.bind_some, gR_at c.o25 (k := 0) (x := b + 3) rfl, Option.bind_some, gI_at c.o25 (k := 2) (x := O 25 2) rfl, Option.bind_some, gI_at c.o25 (k := 3) (x := O 25 3) rfl, Option.bind_some, ha, hf, show nI (e + 1) - 1 = nI e from pk_sub (a := e + 1) (b := 1) (by omega), e1, Option.bind_some, gZ_b, Option.bind_some]
theorem nz_c (c : CAt Gc b O P) (h : AE O A len) {f t : Nat} (hf : O 25 3 = nI f) (ht : O 25 4 = nI t) (hft : f ≤ t) (htl : t ≤ len) : ∃ q : Bool, fX8_hasNoZero v Gc (b + 25) = some (bI q) ∧ (q = true → ∀ j, f ≤ j → j < t → A 10 j ≠ 0) ∧ (q = false → ∃ j, f ≤ j ∧ j < t ∧ A 10 j = 0) := by
  have hl := h.2.1
  have ef := rb_find (v := v) (c.rA h) 0 hft htl
  have fb := fnd_b (A 10) 0 (t - f) f
  have key : fX8_hasNoZero v Gc (b + 25) = if nI (fnd (A 10) 0 (t - f) f) = nI t then some 1 else some 0 := by
    unfold fX8_hasNoZero
    rw [gOb_at c.o25, Option.bind_some, gR_at c.o25 (k := 0) (x := b + 3) rfl, Option.bind_some, gI_at c.o25 (k := 3) (x := O 25 3) rfl, Option.bind_some, gI_at c.o25 (k := 4) (x := O 25 4) rfl, Option.bind_some, hf, ht, ef, Option.bind_some, Option.bind_some, gZ_0, gZ_1, Option.bind_some, Option.bind_some]
  by_cases z : fnd (A 10) 0 (t - f) f = t
  · exact ⟨true, by rw [key, if_pos (by rw [z])]; rfl, fun _ j h1 h2 => fnd_n (A 10) 0 (t - f) f j h1 (by omega), fun y => absurd y (by decide)⟩
  · exact ⟨false, by rw [key, if_neg (fun y => z ((nI_eq (by omega) (by omega)).mp y))]; rfl, fun y => absurd y (by decide), fun _ => ⟨_, fb.1, by omega, fnd_e (A 10) 0 (t - f) f (by omega)⟩⟩
/-- the value of a ROW -/
theorem val_all (c : CAt Gc b O P) (K : MAt Gm m I J A B) (h : AE O A len) (ah : AH O A P B I) (hk : kg k g) (sy : StrsY v b Gc) {t : Nat} (ha : O 25 2 = nI p) (hf : O 25 3 = nI (e + 1)) (ht : O 25 4 = nI t) (hpe : p ≤ e) (het : e < t) (htl : t < len) : VR b m k O P I A B Gc Gm (fX8_takeValue v Gc (b + 25) (b + k)) (fX11_valued v Gm m (nI p) (nI e) (nI (e + 1)) (nI t) (nI g)) := by
  obtain ⟨⟨s11, s12, s13, s14, s15, s16, s17⟩, s10, s18⟩ := sy
  obtain ⟨q1, x1, y1, z1⟩ := key_2 (v := v) (t := t) c K h s13 ky_PA ha hf hpe (by omega)
  obtain ⟨q2, x2, y2, z2⟩ := key_2 (v := v) (t := t) c K h s14 ky_LK ha hf hpe (by omega)
  obtain ⟨q3, x3, y3, z3⟩ := key_2 (v := v) (t := t) c K h s15 ky_UI ha hf hpe (by omega)
  obtain ⟨q4, x4, y4, z4⟩ := key_2 (v := v) (t := t) c K h s16 ky_GI ha hf hpe (by omega)
  obtain ⟨q5, x5, y5, z5⟩ := key_2 (v := v) (t := t) c K h s18 ky_SZ ha hf hpe (by omega)
  obtain ⟨q6, x6, y6, z6⟩ := key_2 (v := v) (t := t) c K h s17 ky_MT ha hf hpe (by omega)
  have y1' : fX11_isKey v Gm m (nI p) (nI e) 1885434984 4 = some (bI q1) := y1
  have y2' : fX11_isKey v Gm m (nI p) (nI e) 7811896436376826984 8 = some (bI q2) := y2
  have y3' : fX11_isKey v Gm m (nI p) (nI e) 7694692 3 = some (bI q3) := y3
  have y4' : fX11_isKey v Gm m (nI p) (nI e) 6777188 3 = some (bI q4) := y4
  have y5' : fX11_isKey v Gm m (nI p) (nI e) 1936292453 4 = some (bI q5) := y5
  have y6' : fX11_isKey v Gm m (nI p) (nI e) 470104501605 5 = some (bI q6) := y6
  have nt : ¬ bI true = 0 := by decide
  have ff : bI false = 0 := rfl
  have o25 := c.o25
  have oA := c.oA hk.a
  -- a name or a link
  have nm : ∀ (r cc : Nat) (yy : Int32), ((r = k + 1 ∧ cc = 16 ∧ yy = 0) ∨ (r = k + 3 ∧ cc = 18 ∧ yy = 1)) → VR b m k O P I A B Gc Gm (Option.bind (fX8_hasNoZero v Gc (b + 25)) fun x60 =>
      if x60 = (0) then
      (Option.bind (gZ (0 : Int32)) fun _ =>
      some ((0 : Int32), Gc))
      else
      Option.bind (some (b + r)) fun x64 =>
      Option.bind (gR Gc (b + 25) 8 0) fun x65 =>
      Option.bind (gI Gc (b + 25) 8 3) fun x66 =>
      Option.bind (gI Gc (b + 25) 8 4) fun x67 =>
      Option.bind (fX7_become v Gc x64 x65 x66 x67) fun x68 =>
      if x68.1 = (0) then
      (Option.bind (gZ (0 : Int32)) fun _ =>
      some ((0 : Int32), x68.2))
      else
      Option.bind (gZ (1 : Int32)) fun _ =>
      some ((1 : Int32), x68.2)) (jX11_valued_47 v Gm yy (nI g) (nI t) (nI (e + 1)) m) := by
    intro r cc yy hr
    obtain ⟨q, e1, e2, e3⟩ := nz_c (v := v) c h hf ht (by omega) (by omega)
    unfold jX11_valued_47
    rw [e1, Option.bind_some]
    cases q
    · rw [if_pos ff, gZ_0, Option.bind_some, m_namedZ (v := v) (by omega) (by have := h.2.1; omega) K (e3 rfl), Option.bind_some, gZ_0, Option.bind_some]
      exact ⟨false, Gc, Gm, O, P, I, J, A, B, rfl, rfl, c, K, Fw.rf, Fw.rf, fun _ _ => ⟨rfl, rfl⟩, fun _ _ => rfl, fun _ _ => rfl, fun _ _ => rfl, fun z => absurd z (by decide)⟩
    · obtain ⟨q', Gc', Gm', O', P', I', J', A', B', w1, w2, w3⟩ := val_nm (v := v) c K h ah hk hr (f := e + 1) (t := t) (by omega) (by omega) (e2 rfl)
      rw [if_neg nt, Option.bind_some, gR_at o25 (k := 0) (x := b + 3) rfl, Option.bind_some, gI_at o25 (k := 3) (x := O 25 3) rfl, Option.bind_some, gI_at o25 (k := 4) (x := O 25 4) rfl, Option.bind_some, hf, ht, w1, Option.bind_some, w2, Option.bind_some, gZ_b, Option.bind_some]
      refine ⟨q', Gc', Gm', O', P', I', J', A', B', ?_, rfl, w3⟩
      cases q'
      · rw [if_pos ff, gZ_0, Option.bind_some]
        rfl
      · rw [if_neg nt, gZ_1, Option.bind_some]
        rfl
  have num := fun w hw => val_num (v := v) c K h ah hk hf ht (by omega) (by omega) (w := w) hw
  unfold fX8_takeValue fX11_valued
  simp only [gOb_at o25, Option.bind_some, x1, x2, x3, x4, x5, x6, K.ob, y1', y2', y3', y4', y5', y6']
  cases q1
  · simp only [if_pos ff]
    cases q2
    · simp only [if_pos ff]
      cases q6
      · simp only [if_pos ff]
        cases q3
        · simp only [if_pos ff]
          cases q4
          · simp only [if_pos ff]
            cases q5
            · simp only [if_pos ff]
              unfold jX11_valued_120
              rw [if_neg (by decide), gZ_1, Option.bind_some, Option.bind_some]
              exact ⟨true, Gc, Gm, O, P, I, J, A, B, rfl, rfl, c, K, Fw.rf, Fw.rf, fun _ _ => ⟨rfl, rfl⟩, fun _ _ => rfl, fun _ _ => rfl, fun _ _ => rfl, fun _ => ah⟩
            · simp only [if_neg nt]
              exact num 2 (by decide)
          · simp only [if_neg nt]
            exact num 1 (by decide)
        · simp only [if_neg nt]
          exact num 0 (by decide)
      · have q3f : q3 = false := by
          cases q3
          · rfl
          · have := z3 rfl; have := z6 rfl
            exact absurd (show UI.length = MT.length by omega) (by decide)
        have q4f : q4 = false := by
          cases q4
          · rfl
          · have := z4 rfl; have := z6 rfl
            exact absurd (show GI.length = MT.length by omega) (by decide)
        have q5f : q5 = false := by
          cases q5
          · rfl
          · have := z5 rfl; have := z6 rfl
            exact absurd (show SZ.length = MT.length by omega) (by decide)
        subst q3f q4f q5f
        simp only [if_pos ff, if_neg nt]
        obtain ⟨q', Gc', Gm', O', P', I', J', A', B', w1, w2, w3⟩ := val_time (v := v) c K h ah hk (f := e + 1) (t := t) (by omega) htl
        unfold jX11_valued_120
        rw [if_pos (by decide), if_pos rfl, gR_at o25 (k := 0) (x := b + 3) rfl, Option.bind_some, gI_at o25 (k := 3) (x := O 25 3) rfl, Option.bind_some, gI_at o25 (k := 4) (x := O 25 4) rfl, Option.bind_some, hf, ht, w1, Option.bind_some, w2, Option.bind_some, gZ_b, Option.bind_some, Option.bind_some]
        exact ⟨q', Gc', Gm', O', P', I', J', A', B', rfl, rfl, w3⟩
    · simp only [if_neg nt, gR_at oA (k := 1) (x := b + k + 3) rfl]
      unfold jX11_valued_31
      rw [if_pos ff]
      exact nm (k + 3) 18 1 (Or.inr ⟨rfl, rfl, rfl⟩)
  · simp only [if_neg nt, gR_at oA (k := 0) (x := b + k + 1) rfl]
    unfold jX11_valued_31
    rw [if_neg nt]
    exact nm (k + 1) 16 0 (Or.inl ⟨rfl, rfl, rfl⟩)
end RY
/-! PURE: all ROWS, and long names, read on both sides -/
/-- something is read that tells ahead, or a FAULT -/
def RR (b m : Nat) (O : Nat → Nat → Int32) (P : Nat → Nat → Int64) (I : Nat → Int32) (A : Nat → Nat → Int32) (B : Nat → Nat → Int64) (Gc Gm : gH) (C M : Option (Int32 × gH)) : Prop :=
  ∃ (q : Bool) (Gc' Gm' : gH) (O' : Nat → Nat → Int32) (P' : Nat → Nat → Int64) (I' : Nat → Int32) (J' : Int64) (A' : Nat → Nat → Int32) (B' : Nat → Nat → Int64), C = some (bI q, Gc') ∧ M = some (bI q, Gm') ∧ CAt Gc' b O' P' ∧ MAt Gm' m I' J' A' B' ∧ Fw Gc Gc' b 320 ∧ Fw Gm Gm' m 23 ∧ (∀ x, x < 13 ∨ 26 ≤ x → O' x = O x ∧ P' x = P x) ∧ (∀ x, x ≠ 17 → x ≠ 18 → x ≠ 30 → I' x = I x) ∧ (∀ c, c < 16 ∨ 20 < c → A' c = A c) ∧ (∀ c, c ≠ 21 → B' c = B c) ∧ (q = true → AH O' A' P' B' I')
section RZ
variable {v : Nat → Nat} {Gc Gm : gH} {b m len k g : Nat} {O : Nat → Nat → Int32} {P : Nat → Nat → Int64} {I : Nat → Int32} {J : Int64} {A : Nat → Nat → Int32} {B : Nat → Nat → Int64}
theorem CAt.p25 (c : CAt Gc b O P) {f : Nat} (hf : f = 2 ∨ f = 3 ∨ f = 4) (x : Int32) : ∃ G', gPut Gc (b + 25) 8 f (.int x) = some G' ∧ CAt G' b (uO O 25 f x) P ∧ Fw Gc G' b 320 := by
  have key : Tm b 25 f 8 x := by
    rcases hf with rfl | rfl | rfl
    · exact tm_Q2
    · exact tm_Q3
    · exact tm_Q4
  obtain ⟨G', e, c', f'⟩ := c.ti key
  exact ⟨G', e, c', f'.1, fun q hq => f'.2 q (by omega)⟩
theorem c_end (c : CAt Gc b O P) (x y : Int32) : ∃ G' O', fX4_end v Gc (b + 23) x y = some (-1, G') ∧ CAt G' b O' P ∧ (∀ q, q ≠ 23 → O' q = O q) ∧ Fw Gc G' b 320 := by
  obtain ⟨G1, e1, c1, f1⟩ := c.ti (tm_F0 (b := b) (x := x))
  obtain ⟨G2, e2, c2, f2⟩ := c1.ti (tm_F1 (b := b) (x := y))
  refine ⟨G2, _, ?_, c2, fun q hq => by rw [uO_n hq, uO_n hq], (f1.tr f2).1, fun q hq => (f1.tr f2).2 q (by omega)⟩
  unfold fX4_end
  rw [gOb_at (c.o 23 (by decide) rfl), Option.bind_some, e1, Option.bind_some, e2, Option.bind_some]
/-- the parts of a ROW: found on both sides, or on neither -/
def FP (v : Nat → Nat) (b m row e g : Nat) (O : Nat → Nat → Int32) (P : Nat → Nat → Int64) (I : Nat → Int32) (J : Int64) (A : Nat → Nat → Int32) (B : Nat → Nat → Int64) (Gc Gm : gH) (C M : Option (Int32 × gH)) : Prop :=
  ∃ (Gc' : gH) (O' : Nat → Nat → Int32), CAt Gc' b O' P ∧ (∀ x, x ≠ 25 → O' x = O x) ∧ Fw Gc Gc' b 320 ∧
  ((∃ (Gm' : gH) (I' : Nat → Int32), C = some (0, Gc') ∧ M = some (-1, Gm') ∧ MAt Gm' m I' J A B ∧ (∀ q, q ≠ 17 → q ≠ 18 → I' q = I q) ∧ Fw Gm Gm' m 23) ∨
   (∃ p s n : Nat, C = some (1, Gc') ∧ O' 25 2 = nI p ∧ O' 25 3 = nI (s + 1) ∧ O' 25 4 = nI (row + n - 1) ∧ row < p ∧ p ≤ s ∧ s < row + n - 1 ∧ row + n ≤ e ∧ M = Option.bind (fX11_valued v Gm m (nI p) (nI s) (nI (s + 1)) (nI (row + n - 1)) (nI g)) fun x3 =>
      if x3.1 = (0) then
      (Option.bind (fX11_failed v x3.2 m (9 : Int32) (nI s + (1 : Int32))) fun x6 =>
      some ((-1 : Int32), x6))
      else
      some (nI n, x3.2)))
theorem m173 (K : MAt Gm m I J A B) (row : Nat) : ∃ (Gm' : gH) (I' : Nat → Int32), jX11_rowAt_173 v Gm m (nI row) = some (-1, Gm') ∧ MAt Gm' m I' J A B ∧ (∀ q, q ≠ 17 → q ≠ 18 → I' q = I q) ∧ Fw Gm Gm' m 23 := by
  obtain ⟨G', I', e, k', hI, f'⟩ := m_fail (v := v) K 8 (nI row)
  refine ⟨G', I', ?_, k', hI, f'⟩
  unfold jX11_rowAt_173
  rw [e, Option.bind_some]
/-- no ROW: the reference -/
theorem m114 (row i : Nat) (L : Int32) : jX11_rowAt_114 v Gm m (nI row) (nI g) (nI i) L = jX11_rowAt_173 v Gm m (nI row) := by
  unfold jX11_rowAt_114 jX11_rowAt_115
  rw [Option.bind_some]
  show bX11_rowAt_123 v (lX11_rowAt_123 v (gFu - 1)) Gm m (nI row) (nI g) (nI i) L 0 _ = _
  unfold bX11_rowAt_123 jX11_rowAt_157
  rw [if_pos rfl, if_pos rfl]
/-- the reference seeks the 61 -/
theorem m123 (K : MAt Gm m I J A B) {row i n nl : Nat} (hn : row + n = nl + 1) (hl : nl < 32768) : ∀ (d y f : Nat), y + d = nl → d < f → lX11_rowAt_123 v f Gm m (nI row) (nI g) (nI i) (nI n) 1 (nI y) = jX11_rowAt_157 v Gm m (nI row) (nI g) (nI i) (nI n) 1 (nI (fnd (A 10) 61 d y)) := by
  have hr := K.r 11 10 rfl (by decide)
  have e1 : nI row + nI n - 1 = nI nl := by
    rw [nI_add, hn]
    exact pk_sub (a := nl + 1) (b := 1) (by omega)
  have n2 : ¬ (1 : Int32) = 0 := by decide
  intro d
  induction d with
  | zero =>
    intro y f hy hf
    obtain ⟨f, rfl⟩ : ∃ f', f = f' + 1 := ⟨f - 1, by omega⟩
    show bX11_rowAt_123 v (lX11_rowAt_123 v f) Gm m (nI row) (nI g) (nI i) (nI n) 1 (nI y) = _
    unfold bX11_rowAt_123 fnd
    rw [if_neg n2, e1, if_pos (nI_le (by omega) (by omega))]
  | succ d ih =>
    intro y f hy hf
    obtain ⟨f, rfl⟩ : ∃ f', f = f' + 1 := ⟨f - 1, by omega⟩
    have a2 := at_m K (j := y) (by omega)
    have n1 : ¬ nI nl ≤ nI y := nI_ge (by omega) (by omega)
    show bX11_rowAt_123 v (lX11_rowAt_123 v f) Gm m (nI row) (nI g) (nI i) (nI n) 1 (nI y) = _
    unfold bX11_rowAt_123 fnd
    simp only [if_neg n2, e1, if_neg n1, hr, Option.bind_some, a2, nI_1]
    by_cases z : A 10 y = 61
    · rw [if_pos z, if_pos z]
    · rw [if_neg z, if_neg z]
      exact ih (y + 1) f (by omega) (by omega)
theorem fp_68 (c : CAt Gc b O P) (K : MAt Gm m I J A B) (h : AE O A len) {row e i n : Nat} (hr1 : 1 ≤ row) (hri : row ≤ i) (hie : i ≤ e) (hel : e ≤ len) (hn : n < 10000) : FP v b m row e g O P I J A B Gc Gm (jX8_findParts_68 v Gc (b + 25) (nI row) (nI e) (nI i) (nI n)) (jX11_rowAt_57 v Gm m (nI row) (nI e) (nI g) (nI i) (nI n)) := by
  have hl := h.2.1
  have o25 := c.o25
  obtain ⟨G7, I7, x7, k7, i7, f7⟩ := m173 (v := v) K row
  have bad : FP v b m row e g O P I J A B Gc Gm (some (0, Gc)) (jX11_rowAt_173 v Gm m (nI row)) := ⟨Gc, O, c, fun _ _ => rfl, Fw.rf, Or.inl ⟨G7, I7, rfl, x7, k7, i7, f7⟩⟩
  unfold jX8_findParts_68 jX11_rowAt_57
  simp only [m114, gZ_0, gZ_1, Option.bind_some]
  by_cases z1 : i = row
  · rw [if_pos (show nI i = nI row by rw [z1]), if_pos (show nI i ≤ nI row from nI_le (by omega) (by omega))]
    exact bad
  rw [if_neg (show ¬ nI i = nI row from fun w => z1 ((nI_eq (by omega) (by omega)).mp w)), if_neg (show ¬ nI i ≤ nI row from nI_ge (by omega) (by omega))]
  by_cases z2 : e ≤ i
  · have pe : nI e ≤ nI i := nI_le z2 (by omega)
    rw [if_pos pe, if_pos pe]
    exact bad
  have ne : ¬ nI e ≤ nI i := nI_ge (by omega) (by omega)
  rw [if_neg ne, if_neg ne]
  have a1 := at_c (v := v) c h (j := i) (by omega)
  have a2 := at_m K (j := i) (by omega)
  have hr := K.r 11 10 rfl (by decide)
  simp only [gR_at o25 (k := 0) (x := b + 3) rfl, Option.bind_some, a1, hr, a2]
  by_cases z3 : A 10 i = 32
  case neg =>
    rw [if_neg z3, if_neg z3]
    exact bad
  rw [if_pos z3, if_pos z3]
  -- the class notes the parts
  have enl : nI row + nI n - 1 = nI (row + n - 1) := by
    rw [nI_add]
    exact pk_sub (a := row + n) (b := 1) (by omega)
  have enl' : nI (row + n) - 1 = nI (row + n - 1) := pk_sub (a := row + n) (b := 1) (by omega)
  obtain ⟨G1, p1, c1, f1⟩ := c.p25 (f := 2) (by omega) (nI (i + 1))
  obtain ⟨G2, p2, c2, f2⟩ := c1.p25 (f := 4) (by omega) (nI (row + n - 1))
  have q2 : uO (uO O 25 2 (nI (i + 1))) 25 4 (nI (row + n - 1)) 25 2 = nI (i + 1) := by rw [uO_s, updI_n _ _ (by decide), uO_s, updI_s]
  have q4 : uO (uO O 25 2 (nI (i + 1))) 25 4 (nI (row + n - 1)) 25 4 = nI (row + n - 1) := by rw [uO_s, updI_s]
  have oo : ∀ x, x ≠ 25 → uO (uO O 25 2 (nI (i + 1))) 25 4 (nI (row + n - 1)) x = O x := fun x hx => by rw [uO_n hx, uO_n hx]
  have h2 : AE (uO (uO O 25 2 (nI (i + 1))) 25 4 (nI (row + n - 1))) A len := by
    unfold AE
    rw [oo 3 (by decide), oo 4 (by decide)]
    exact h
  have o2 := c2.o25
  have i2 := gI_at o2 (k := 2) (x := _) rfl
  have i4 := gI_at o2 (k := 4) (x := _) rfl
  rw [q2] at i2
  rw [q4] at i4
  have r2 := gR_at o2 (k := 0) (x := b + 3) rfl
  have bad2 : FP v b m row e g O P I J A B Gc Gm (some (0, G2)) (jX11_rowAt_173 v Gm m (nI row)) := ⟨G2, _, c2, oo, f1.tr f2, Or.inl ⟨G7, I7, rfl, x7, k7, i7, f7⟩⟩
  simp only [nI_1, nI_add, enl', p1, Option.bind_some, p2, i4, i2, r2]
  by_cases z0 : n = 0
  · rw [if_pos (show nI n ≤ 0 by rw [z0]; decide), if_pos (show nI (row + n - 1) < nI (i + 1) from Int32.not_le.mp (nI_ge (by omega) (by omega)))]
    exact bad2
  rw [if_neg (show ¬ nI n ≤ 0 from nI_nle (by omega) (by omega))]
  by_cases z4 : row + n - 1 < i + 1
  · rw [if_pos (show nI (row + n - 1) < nI (i + 1) from Int32.not_le.mp (nI_ge z4 (by omega)))]
    by_cases z5 : e < row + n
    · rw [if_pos (show nI e < nI (row + n) from Int32.not_le.mp (nI_ge z5 (by omega)))]
      exact bad2
    · rw [if_neg (show ¬ nI e < nI (row + n) from Int32.not_lt.mpr (nI_le (by omega) (by omega))), at_m K (j := row + n - 1) (by omega), Option.bind_some]
      by_cases z6 : A 10 (row + n - 1) = 10
      · rw [if_pos z6]
        unfold jX11_rowAt_115
        rw [Option.bind_some, nI_1]
        show FP v b m row e g O P I J A B Gc Gm (some (0, G2)) (bX11_rowAt_123 v (lX11_rowAt_123 v (gFu - 1)) Gm m (nI row) (nI g) (nI i) (nI n) 1 (nI (i + 1)))
        unfold bX11_rowAt_123 jX11_rowAt_157
        rw [if_neg (show ¬ (1 : Int32) = 0 by decide), enl, if_pos (show nI (row + n - 1) ≤ nI (i + 1) from nI_le (by omega) (by omega)), if_neg (show ¬ (1 : Int32) = 0 by decide), if_neg (show ¬ nI (i + 1) < nI (row + n - 1) from Int32.not_lt.mpr (nI_le (by omega) (by omega)))]
        exact bad2
      · rw [if_neg z6]
        exact bad2
  rw [if_neg (show ¬ nI (row + n - 1) < nI (i + 1) from Int32.not_lt.mpr (nI_le (by omega) (by omega)))]
  by_cases z5 : e < row + n
  · rw [if_pos (show nI e ≤ nI (row + n - 1) from nI_le (by omega) (by omega)), if_pos (show nI e < nI (row + n) from Int32.not_le.mp (nI_ge z5 (by omega)))]
    exact bad2
  rw [if_neg (show ¬ nI e ≤ nI (row + n - 1) from nI_ge (by omega) (by omega)), if_neg (show ¬ nI e < nI (row + n) from Int32.not_lt.mpr (nI_le (by omega) (by omega)))]
  have a3 := at_c (v := v) c2 h2 (j := row + n - 1) (by omega)
  have a4 := at_m K (j := row + n - 1) (by omega)
  simp only [a3, a4, Option.bind_some]
  by_cases z6 : A 10 (row + n - 1) = 10
  case neg =>
    rw [if_neg z6, if_neg z6]
    exact bad2
  rw [if_pos z6, if_pos z6]
  have fb := fnd_b (A 10) 61 (row + n - 1 - (i + 1)) (i + 1)
  have ef := rb_find (v := v) (c2.rA h2) 61 (j := i + 1) (e := row + n - 1) (by omega) (by omega)
  have em := m123 (v := v) (g := g) (i := i) K (row := row) (n := n) (nl := row + n - 1) (by omega) (by omega) (row + n - 1 - (i + 1)) (i + 1) gFu (by omega) (by unfold gFu; omega)
  obtain ⟨s, hs⟩ : ∃ s, s = fnd (A 10) 61 (row + n - 1 - (i + 1)) (i + 1) := ⟨_, rfl⟩
  rw [← hs] at fb ef em
  obtain ⟨G3, p3, c3, f3⟩ := c2.p25 (f := 3) (by omega) (nI (s + 1))
  have oo3 : ∀ x, x ≠ 25 → uO (uO (uO O 25 2 (nI (i + 1))) 25 4 (nI (row + n - 1))) 25 3 (nI (s + 1)) x = O x := fun x hx => by rw [uO_n hx, oo x hx]
  have w2 : uO (uO (uO O 25 2 (nI (i + 1))) 25 4 (nI (row + n - 1))) 25 3 (nI (s + 1)) 25 2 = nI (i + 1) := by rw [uO_s, updI_n _ _ (by decide)]; exact q2
  have w3 : uO (uO (uO O 25 2 (nI (i + 1))) 25 4 (nI (row + n - 1))) 25 3 (nI (s + 1)) 25 3 = nI (s + 1) := by rw [uO_s, updI_s]
  have w4 : uO (uO (uO O 25 2 (nI (i + 1))) 25 4 (nI (row + n - 1))) 25 3 (nI (s + 1)) 25 4 = nI (row + n - 1) := by rw [uO_s, updI_n _ _ (by decide)]; exact q4
  have o3 := c3.o25
  have j3 := gI_at o3 (k := 3) (x := _) rfl
  have j4 := gI_at o3 (k := 4) (x := _) rfl
  rw [w3] at j3
  rw [w4] at j4
  unfold jX11_rowAt_115
  simp only [Option.bind_some, ef, nI_1, p3, j3, j4, em]
  unfold jX11_rowAt_157
  rw [if_neg (show ¬ (1 : Int32) = 0 by decide), enl]
  by_cases z7 : s < row + n - 1
  · rw [if_neg (show ¬ nI (row + n - 1) < nI (s + 1) from Int32.not_lt.mpr (nI_le (by omega) (by omega))), if_pos (show nI s < nI (row + n - 1) from Int32.not_le.mp (nI_ge z7 (by omega)))]
    refine ⟨G3, _, c3, oo3, (f1.tr f2).tr f3, Or.inr ⟨i + 1, s, n, rfl, w2, w3, w4, by omega, fb.1, z7, by omega, ?_⟩⟩
    rw [nI_1, nI_1]
  · rw [if_pos (show nI (row + n - 1) < nI (s + 1) from Int32.not_le.mp (nI_ge (by omega) (by omega))), if_neg (show ¬ nI s < nI (row + n - 1) from Int32.not_lt.mpr (nI_le (by omega) (by omega)))]
    exact ⟨G3, _, c3, oo3, (f1.tr f2).tr f3, Or.inl ⟨G7, I7, rfl, x7, k7, i7, f7⟩⟩
/-- a ROW is parted -/
theorem fp_5 (c : CAt Gc b O P) (K : MAt Gm m I J A B) (h : AE O A len) {row e : Nat} (hr1 : 1 ≤ row) (hel : e ≤ len) : ∀ (d i n f1 f2 : Nat), i + d = e → row ≤ i → i ≤ row + 4 → n < 10 ^ (i - row) → d < f1 → d < f2 → FP v b m row e g O P I J A B Gc Gm (lX8_findParts_5 v f1 Gc (b + 25) (nI row) (nI e) (nI i) (nI n)) (lX11_rowAt_6 v f2 Gm m (nI row) (nI e) (nI g) (nI i) (nI n)) := by
  have hl := h.2.1
  have o25 := c.o25
  have hr := K.r 11 10 rfl (by decide)
  have rr := gR_at o25 (k := 0) (x := b + 3) rfl
  have pow4 : ∀ i n, row ≤ i → i ≤ row + 4 → n < 10 ^ (i - row) → n < 10000 ∨ False := fun i n h1 h2 h3 => by
    left
    rcases (show i - row = 0 ∨ i - row = 1 ∨ i - row = 2 ∨ i - row = 3 ∨ i - row = 4 by omega) with w | w | w | w | w <;> rw [w] at h3 <;> omega
  intro d
  induction d with
  | zero =>
    intro i n f1 f2 hi hri hi4 hn hf1 hf2
    obtain ⟨f1, rfl⟩ : ∃ f', f1 = f' + 1 := ⟨f1 - 1, by omega⟩
    obtain ⟨f2, rfl⟩ : ∃ f', f2 = f' + 1 := ⟨f2 - 1, by omega⟩
    obtain rfl : i = e := by omega
    have hn4 := (pow4 i n hri hi4 hn).resolve_right id
    show FP v b m row i g O P I J A B Gc Gm (bX8_findParts_5 v (lX8_findParts_5 v f1) Gc (b + 25) (nI row) (nI i) (nI i) (nI n)) (bX11_rowAt_6 v (lX11_rowAt_6 v f2) Gm m (nI row) (nI i) (nI g) (nI i) (nI n))
    unfold bX8_findParts_5 bX11_rowAt_6
    rw [if_pos (nI_le (Nat.le_refl _) (by omega)), if_pos (nI_le (Nat.le_refl _) (by omega))]
    exact fp_68 c K h hr1 hri (by omega) hel hn4
  | succ d ih =>
    intro i n f1 f2 hi hri hi4 hn hf1 hf2
    obtain ⟨f1, rfl⟩ : ∃ f', f1 = f' + 1 := ⟨f1 - 1, by omega⟩
    obtain ⟨f2, rfl⟩ : ∃ f', f2 = f' + 1 := ⟨f2 - 1, by omega⟩
    have hn4 := (pow4 i n hri hi4 hn).resolve_right id
    have out := fp_68 (v := v) (g := g) c K h hr1 hri (show i ≤ e by omega) hel hn4
    have ne : ¬ nI e ≤ nI i := nI_ge (by omega) (by omega)
    show FP v b m row e g O P I J A B Gc Gm (bX8_findParts_5 v (lX8_findParts_5 v f1) Gc (b + 25) (nI row) (nI e) (nI i) (nI n)) (bX11_rowAt_6 v (lX11_rowAt_6 v f2) Gm m (nI row) (nI e) (nI g) (nI i) (nI n))
    unfold bX8_findParts_5 bX11_rowAt_6
    rw [if_neg ne, if_neg ne, pk_sub hri, show nI row + (4 : Int32) = nI (row + 4) from nI_add row 4]
    by_cases z4 : i = row + 4
    · rw [if_pos (show (4 : Int32) ≤ nI (i - row) from nI_le (a := 4) (by omega) (by omega)), if_pos (nI_le (by omega) (by omega))]
      exact out
    · rw [if_neg (show ¬ (4 : Int32) ≤ nI (i - row) from nI_ge (b := 4) (by omega) (by decide)), if_neg (nI_ge (by omega) (by omega))]
      have a1 := at_c (v := v) c h (j := i) (by omega)
      have a2 := at_m K (j := i) (by omega)
      obtain ⟨q, e1, e2⟩ := m_dig (v := v) (G := Gm) (A 10 i)
      simp only [rr, Option.bind_some, a1, hr, a2, e1, nI_1]
      cases q
      · rw [if_pos (show bI false = 0 from rfl)]
        by_cases y1 : A 10 i < 48
        · rw [if_pos y1]
          exact out
        · rw [if_neg y1]
          by_cases y2 : 57 < A 10 i
          · rw [if_pos y2]
            exact out
          · exact absurd (e2.mpr ⟨y1, y2⟩) (by decide)
      · have hd := e2.mp rfl
        obtain ⟨dd', hd9, ed⟩ := dig_nI hd
        have eL : nI n * 10 + A 10 i - 48 = nI (n * 10 + dd') := by
          rw [ed, show (10 : Int32) = nI 10 from rfl, nI_mul, nI_add]
          exact (pk_sub (a := n * 10 + (48 + dd')) (b := 48) (by omega)).trans (by rw [show n * 10 + (48 + dd') - 48 = n * 10 + dd' by omega])
        rw [if_neg (show ¬ bI true = 0 by decide), if_neg hd.1, if_neg hd.2, Int32.mul_comm 10 (nI n), eL]
        refine ih (i + 1) (n * 10 + dd') f1 f2 (by omega) (by omega) (by omega) ?_ (by omega) (by omega)
        rw [show i + 1 - row = i - row + 1 by omega, Nat.pow_succ]
        omega
theorem fp_all (c : CAt Gc b O P) (K : MAt Gm m I J A B) (h : AE O A len) {row e : Nat} (hr1 : 1 ≤ row) (hre : row ≤ e) (hel : e ≤ len) : FP v b m row e g O P I J A B Gc Gm (fX8_findParts v Gc (b + 25) (nI row) (nI e)) (fX11_rowAt v Gm m (nI row) (nI e) (nI g)) := by
  have hl := h.2.1
  unfold fX8_findParts fX11_rowAt
  rw [gOb_at c.o25, Option.bind_some, K.ob, Option.bind_some]
  exact fp_5 (v := v) c K h hr1 hel (e - row) row 0 gFu gFu (by omega) (Nat.le_refl _) (by omega) (by rw [Nat.sub_self]; decide) (by unfold gFu; omega) (by unfold gFu; omega)
end RZ
/-! PURE: the DATA of heads ahead, read on both sides -/
section RA2
variable {v : Nat → Nat} {Gc Gm : gH} {b m len k g : Nat} {O O' : Nat → Nat → Int32} {P P' : Nat → Nat → Int64} {I I' : Nat → Int32} {J : Int64} {A A' : Nat → Nat → Int32} {B B' : Nat → Nat → Int64}
theorem AH.o (h : AH O A P B I) (hO : ∀ q, 13 ≤ q → q < 23 → O' q = O q) (hP : ∀ q, 13 ≤ q → q < 23 → P' q = P q) (hA : ∀ c, 16 ≤ c → c ≤ 20 → A' c = A c) (hB : B' 21 = B 21) (hI : I' 30 = I 30) : AH O' A' P' B' I' := by
  obtain ⟨h1, h2, h3⟩ := h
  have a16 := hA 16 (by decide) (by decide)
  have a17 := hA 17 (by decide) (by decide)
  have a18 := hA 18 (by decide) (by decide)
  have a19 := hA 19 (by decide) (by decide)
  have a20 := hA 20 (by decide) (by decide)
  refine ⟨h1.eq (fun q q1 q2 => hO q q1 (by omega)) (hP 13 (by decide) (by decide)) (by rw [a17]) (by rw [a19]) (fun j _ => by rw [a16]) (fun j _ => by rw [a18]) (fun w _ => by rw [a20]) (fun w _ => by rw [hB]), h2.eq (fun q q1 q2 => hO q (by omega) q2) (hP 18 (by decide) (by decide)) (by rw [a17]) (by rw [a19]) (fun j _ => by rw [a16]) (fun j _ => by rw [a18]) (fun w _ => by rw [a20]) (fun w _ => by rw [hB]), ?_⟩
  have e : Nt O' P' ↔ Nt O P := by
    unfold Nt
    rw [hO 14 (by decide) (by decide), hO 16 (by decide) (by decide), hO 13 (by decide) (by decide), hP 13 (by decide) (by decide)]
  rw [hI]
  rcases h3 with ⟨z, w⟩ | ⟨z, w⟩
  · exact Or.inl ⟨z, e.mpr w⟩
  · exact Or.inr ⟨z, fun x => w (e.mp x)⟩
theorem AE.o (h : AE O A len) (h3 : O' 3 = O 3) (h4 : O' 4 = O 4) (hA : A' 10 = A 10) : AE O' A' len := by
  unfold AE at *
  rw [h3, h4, hA]
  exact h
theorem Fw.lo {G G' : gH} {n : Nat} (f : Fw G G' b n) : ∀ q, q < b → G'.1 q = G.1 q ∧ G'.2.1 q = G.2.1 q := fun q hq => f.2 q (Or.inl hq)
/-- all ROWS -/
theorem rows_r (c : CAt Gc b O P) (K : MAt Gm m I J A B) (h : AE O A len) (ah : AH O A P B I) (hk : kg k g) (sy : StrsY v b Gc) {dt sz : Nat} (hd1 : 1 ≤ dt) (hdl : dt + sz ≤ len) : RR b m O P I A B Gc Gm (fX8_takeRows v Gc (b + 25) (b + k) (nI dt) (nI (dt + sz))) (fX11_rows v Gm m (nI dt) (nI sz) (nI g)) := by
  have hl := h.2.1
  have ka := hk.a
  obtain ⟨e, he⟩ : ∃ e, e = dt + sz := ⟨_, rfl⟩
  have edt : nI dt + nI sz = nI e := by rw [nI_add, he]
  have lp : ∀ (d row y f1 f2 : Nat) (Gc1 Gm1 : gH) (O1 : Nat → Nat → Int32) (P1 : Nat → Nat → Int64) (I1 : Nat → Int32) (J1 : Int64) (A1 : Nat → Nat → Int32) (B1 : Nat → Nat → Int64), e - row ≤ d → y ≤ row → row ≤ e → 1 ≤ row → d < f1 → d < f2 → CAt Gc1 b O1 P1 → MAt Gm1 m I1 J1 A1 B1 → AH O1 A1 P1 B1 I1 → Fw Gc Gc1 b 320 → Fw Gm Gm1 m 23 → (∀ x, x < 13 ∨ 26 ≤ x → O1 x = O x ∧ P1 x = P x) → (∀ x, x ≠ 17 → x ≠ 18 → x ≠ 30 → I1 x = I x) → (∀ c, c < 16 ∨ 20 < c → A1 c = A c) → (∀ c, c ≠ 21 → B1 c = B c) → RR b m O P I A B Gc Gm (lX8_takeRows_6 v f1 Gc1 (b + 25) (b + k) (nI e) (nI row) (nI y)) (lX11_rows_3 v f2 Gm1 m (nI dt) (nI sz) (nI g) (nI row)) := by
    intro d
    induction d with
    | zero =>
      intro row y f1 f2 Gc1 Gm1 O1 P1 I1 J1 A1 B1 hd hy hre hr1 h1 h2 c1 K1 ah1 g1 g2 fO fI fA fB
      obtain ⟨f1, rfl⟩ : ∃ f', f1 = f' + 1 := ⟨f1 - 1, by omega⟩
      obtain ⟨f2, rfl⟩ : ∃ f', f2 = f' + 1 := ⟨f2 - 1, by omega⟩
      obtain rfl : row = e := by omega
      show RR b m O P I A B Gc Gm (bX8_takeRows_6 v (lX8_takeRows_6 v f1) Gc1 (b + 25) (b + k) (nI row) (nI row) (nI y)) (bX11_rows_3 v (lX11_rows_3 v f2) Gm1 m (nI dt) (nI sz) (nI g) (nI row))
      refine ⟨true, Gc1, Gm1, O1, P1, I1, J1, A1, B1, ?_, ?_, c1, K1, g1, g2, fO, fI, fA, fB, fun _ => ah1⟩
      · unfold bX8_takeRows_6
        rw [gZ_1, Option.bind_some]
        by_cases z : nI row ≤ nI y
        · rw [if_pos z]; rfl
        · rw [if_neg z, if_pos (nI_le (Nat.le_refl _) (by omega))]; rfl
      · unfold bX11_rows_3
        rw [edt, if_pos (nI_le (Nat.le_refl _) (by omega)), gZ_1, Option.bind_some]
        rfl
    | succ d ih =>
      intro row y f1 f2 Gc1 Gm1 O1 P1 I1 J1 A1 B1 hd hy hre hr1 h1 h2 c1 K1 ah1 g1 g2 fO fI fA fB
      by_cases hlt : row = e
      · exact ih row y f1 f2 Gc1 Gm1 O1 P1 I1 J1 A1 B1 (by omega) hy hre hr1 (by omega) (by omega) c1 K1 ah1 g1 g2 fO fI fA fB
      obtain ⟨f1, rfl⟩ : ∃ f', f1 = f' + 1 := ⟨f1 - 1, by omega⟩
      obtain ⟨f2, rfl⟩ : ∃ f', f2 = f' + 1 := ⟨f2 - 1, by omega⟩
      have hAE1 : AE O1 A1 len := h.o (fO 3 (by omega)).1 (fO 4 (by omega)).1 (fA 10 (by omega))
      have ny : ¬ nI e ≤ nI y := nI_ge (by omega) (by omega)
      have nr : ¬ nI e ≤ nI row := nI_ge (by omega) (by omega)
      show RR b m O P I A B Gc Gm (bX8_takeRows_6 v (lX8_takeRows_6 v f1) Gc1 (b + 25) (b + k) (nI e) (nI row) (nI y)) (bX11_rows_3 v (lX11_rows_3 v f2) Gm1 m (nI dt) (nI sz) (nI g) (nI row))
      unfold bX8_takeRows_6 bX11_rows_3
      rw [if_neg ny, if_neg nr, edt, if_neg nr]
      obtain ⟨Gc2, O2, c2, o2, g3, alt⟩ := fp_all (v := v) (g := g) c1 K1 hAE1 hr1 hre (by omega)
      rcases alt with ⟨Gm2, I2, eC, eM, K2, i2, g4⟩ | ⟨p, s, n, eC, w2, w3, w4, p1, p2, p3, p4, eM⟩
      · obtain ⟨Gc3, O3, eE, c3, o3, g5⟩ := c_end (v := v) c2 8 (nI row)
        rw [eC, Option.bind_some, eM, Option.bind_some, if_pos rfl, gR_at c2.o25 (k := 1) (x := b + 23) rfl, Option.bind_some, eE, Option.bind_some, gZ_0, Option.bind_some, if_neg (show ¬ (0 : Int32) ≤ -1 by decide), Option.bind_some]
        exact ⟨false, Gc3, Gm2, O3, P1, I2, J1, A1, B1, rfl, rfl, c3, K2, (g1.tr g3).tr g5, g2.tr g4, fun x hx => ⟨by rw [o3 x (by omega), o2 x (by omega)]; exact (fO x hx).1, (fO x hx).2⟩, fun x x1 x2 x3 => by rw [i2 x x1 x2]; exact fI x x1 x2 x3, fA, fB, fun z => absurd z (by decide)⟩
      · have ah2 : AH O2 A1 P1 B1 I1 := ah1.o (fun q q1 q2 => o2 q (by omega)) (fun _ _ _ => rfl) (fun _ _ _ => rfl) rfl rfl
        have hAE2 : AE O2 A1 len := hAE1.o (o2 3 (by decide)) (o2 4 (by decide)) rfl
        obtain ⟨q, Gc3, Gm3, O3, P3, I3, J3, A3, B3, xC, xM, c3, K3, g5, g6, fO3, fI3, fA3, fB3, ah3⟩ := val_all (v := v) c2 K1 hAE2 ah2 hk (sy.ag (g1.tr g3).lo) w2 w3 w4 p2 p3 (by omega)
        have o25 : O3 25 = O2 25 := (fO3 25 (by omega)).1
        have o3' := c3.o25
        rw [o25] at o3'
        have j3 := gI_at o3' (k := 3) (x := _) rfl
        have j4 := gI_at o3' (k := 4) (x := _) rfl
        rw [w3] at j3
        rw [w4] at j4
        have fO' : ∀ x, x < 13 ∨ 26 ≤ x → O3 x = O x ∧ P3 x = P x := fun x hx => by
          have a := fO3 x (by omega)
          exact ⟨by rw [a.1, o2 x (by omega)]; exact (fO x hx).1, by rw [a.2]; exact (fO x hx).2⟩
        have fA' : ∀ c, c < 16 ∨ 20 < c → A3 c = A c := fun c hc => by rw [fA3 c hc]; exact fA c hc
        have fB' : ∀ c, c ≠ 21 → B3 c = B c := fun c hc => by rw [fB3 c hc]; exact fB c hc
        have fI' : ∀ x, x ≠ 17 → x ≠ 18 → x ≠ 30 → I3 x = I x := fun x x1 x2 x3 => by rw [fI3 x x3]; exact fI x x1 x2 x3
        rw [eC, Option.bind_some, if_neg (show ¬ (1 : Int32) = 0 by decide), xC, Option.bind_some, eM, xM, Option.bind_some]
        cases q
        · obtain ⟨Gc4, O4, eE, c4, o4, g7⟩ := c_end (v := v) c3 9 (nI (s + 1))
          obtain ⟨Gm4, I4, eF, K4, i4, g8⟩ := m_fail (v := v) K3 9 (nI s + 1)
          rw [if_pos (show bI false = 0 from rfl), if_pos (show bI false = 0 from rfl), gR_at o3' (k := 1) (x := b + 23) rfl, Option.bind_some, j3, Option.bind_some, eE, Option.bind_some, gZ_0, Option.bind_some, eF, Option.bind_some, Option.bind_some, if_neg (show ¬ (0 : Int32) ≤ -1 by decide), Option.bind_some]
          exact ⟨false, Gc4, Gm4, O4, P3, I4, J3, A3, B3, rfl, rfl, c4, K4, ((g1.tr g3).tr g5).tr g7, (g2.tr g6).tr g8, fun x hx => ⟨by rw [o4 x (by omega)]; exact (fO' x hx).1, (fO' x hx).2⟩, fun x x1 x2 x3 => by rw [i4 x x1 x2]; exact fI' x x1 x2 x3, fA', fB', fun z => absurd z (by decide)⟩
        · have nx := ih (row + n) (y + 1) f1 f2 Gc3 Gm3 O3 P3 I3 J3 A3 B3 (by omega) (by omega) (by omega) (by omega) (by omega) (by omega) c3 K3 (ah3 rfl) ((g1.tr g3).tr g5) (g2.tr g6) fO' fI' fA' fB'
          rw [if_neg (show ¬ bI true = 0 by decide), if_neg (show ¬ bI true = 0 by decide), j4, Option.bind_some, Option.bind_some, Option.bind_some, Option.bind_some, if_pos (show (0 : Int32) ≤ nI n from nI_le (a := 0) (by omega) (by omega)), Option.bind_some, nI_1, nI_1, nI_add, show row + n - 1 + 1 = row + n by omega]
          exact nx
  unfold fX8_takeRows fX11_rows
  rw [gOb_at c.o25, Option.bind_some, K.ob, Option.bind_some, ← he]
  exact lp (e - dt) dt dt gFu gFu Gc Gm O P I J A B (Nat.le_refl _) (Nat.le_refl _) (by omega) hd1 (by unfold gFu; omega) (by unfold gFu; omega) c K ah Fw.rf Fw.rf (fun _ _ => ⟨rfl, rfl⟩) (fun _ _ _ _ => rfl) (fun _ _ => rfl) (fun _ _ => rfl)
theorem CAt.o11 (c : CAt Gc b O P) : Gc.2.1 (b + 11) = some (1, [.ref (b + 3), .ref (b + 12), .ref (b + 13), .ref (b + 18), .ref (b + 24), .ref (b + 25), .ref (b + 23), .int (O 11 7), .int (O 11 8)]) := c.o 11 (by decide) rfl
/-- a long name or link -/
theorem long_r (c : CAt Gc b O P) (K : MAt Gm m I J A B) (h : AE O A len) (ah : AH O A P B I) {r cc : Nat} {yy : Int32} (hr : (r = 13 + 1 ∧ cc = 16 ∧ yy = 0) ∨ (r = 13 + 3 ∧ cc = 18 ∧ yy = 1)) {dt sz : Nat} (hdl : dt + sz ≤ len) : RR b m O P I A B Gc Gm (fX1_takeLong v Gc (b + 11) (b + r) (nI dt) (nI (dt + sz))) (fX11_longName v Gm m (nI dt) (nI sz) yy) := by
  have hl := h.2.1
  have hr' := K.r 11 10 rfl (by decide)
  have edt : nI dt + nI sz = nI (dt + sz) := nI_add _ _
  have ef := rb_find (v := v) (c.rA h) 0 (j := dt) (e := dt + sz) (by omega) hdl
  rw [Nat.add_sub_cancel_left] at ef
  have fb := fnd_b (A 10) 0 sz dt
  have lp : ∀ (d y f : Nat), y + d = dt + sz → dt ≤ y → d < f → lX11_longName_3 v f Gm m (nI dt) (nI sz) yy (nI y) = jX11_longName_27 v Gm m (nI dt) yy (nI (fnd (A 10) 0 d y)) := by
    intro d
    induction d with
    | zero =>
      intro y f hy hdy hf
      obtain ⟨f, rfl⟩ : ∃ f', f = f' + 1 := ⟨f - 1, by omega⟩
      show bX11_longName_3 v (lX11_longName_3 v f) Gm m (nI dt) (nI sz) yy (nI y) = _
      unfold bX11_longName_3 fnd
      rw [edt, if_pos (nI_le (by omega) (by omega))]
    | succ d ih =>
      intro y f hy hdy hf
      obtain ⟨f, rfl⟩ : ∃ f', f = f' + 1 := ⟨f - 1, by omega⟩
      have a2 := at_m K (j := y) (by omega)
      have n1 : ¬ nI (dt + sz) ≤ nI y := nI_ge (by omega) (by omega)
      show bX11_longName_3 v (lX11_longName_3 v f) Gm m (nI dt) (nI sz) yy (nI y) = _
      unfold bX11_longName_3 fnd
      simp only [edt, if_neg n1, hr', Option.bind_some, a2, nI_1]
      by_cases z : A 10 y = 0
      · rw [if_pos z, if_pos z]
      · rw [if_neg z, if_neg z]
        exact ih (y + 1) f (by omega) (by omega) (by omega)
  have em := lp sz dt gFu rfl (Nat.le_refl _) (by unfold gFu; omega)
  obtain ⟨q, Gc3, Gm3, O3, P3, I3, J3, A3, B3, xC, xM, c3, K3, g5, g6, fO3, fI3, fA3, fB3, ah3⟩ := val_nm (v := v) (k := 13) (g := 0) c K h ah (Or.inl ⟨rfl, rfl⟩) hr fb.1 (by omega) (fun j h1 h2 => fnd_n (A 10) 0 sz dt j h1 h2)
  have xM' : fX11_named v Gm m (nI dt) (nI (fnd (A 10) 0 sz dt)) 0 yy = some (bI q, Gm3) := xM
  have fO' : ∀ x, x < 13 ∨ 26 ≤ x → O3 x = O x ∧ P3 x = P x := fun x hx => fO3 x (by omega)
  have r6 : gR Gc3 (b + 11) 1 6 = some (b + 23) := gR_at c3.o11 rfl
  unfold fX1_takeLong fX11_longName
  rw [gOb_at c.o11, Option.bind_some, gR_at c.o11 (k := 0) (x := b + 3) rfl, Option.bind_some, Option.bind_some, ef, Option.bind_some, xC, Option.bind_some, K.ob, Option.bind_some, em]
  unfold jX11_longName_27
  rw [xM', Option.bind_some]
  cases q
  · obtain ⟨Gc4, O4, eE, c4, o4, g7⟩ := c_end (v := v) c3 9 (nI dt)
    obtain ⟨Gm4, I4, eF, K4, i4, g8⟩ := m_fail (v := v) K3 9 (nI dt)
    rw [if_pos (show bI false = 0 from rfl), if_pos (show bI false = 0 from rfl), r6, Option.bind_some, eE, Option.bind_some, gZ_0, Option.bind_some, eF, Option.bind_some, Option.bind_some]
    exact ⟨false, Gc4, Gm4, O4, P3, I4, J3, A3, B3, rfl, rfl, c4, K4, g5.tr g7, g6.tr g8, fun x hx => ⟨by rw [o4 x (by omega)]; exact (fO' x hx).1, (fO' x hx).2⟩, fun x x1 x2 x3 => by rw [i4 x x1 x2]; exact fI3 x x3, fA3, fB3, fun z => absurd z (by decide)⟩
  · rw [if_neg (show ¬ bI true = 0 by decide), if_neg (show ¬ bI true = 0 by decide), gZ_1, Option.bind_some, Option.bind_some]
    exact ⟨true, Gc3, Gm3, O3, P3, I3, J3, A3, B3, rfl, rfl, c3, K3, g5, g6, fO', fun x _ _ x3 => fI3 x x3, fA3, fB3, fun _ => ah3 rfl⟩
end RA2
