/-! PURE: the constructors' loops -/
theorem st_ref {G : gH} {a n i : Nat} {C : String} {f : Nat → Value} {x : Value} (h : G.1 a = some (.object C, true, n, f)) (hi : i < n) (hn : n < 2 ^ 31) : gSt G (.object C) a (nI i) x = some (gUpA G a (.object C, true, n, updV f i x)) := by
  have h2 : ¬ (nI i < 0 ∨ n ≤ (nI i).toNatClampNeg) := nI_in hi hn
  unfold gSt
  rw [h]
  simp only [and_self, if_true, if_neg h2]
  rw [nI_clamp (by omega)]
theorem upA_at (G : gH) (a : Nat) (e : gAE) : (gUpA G a e).1 a = some e := by simp [gUpA, pu_up]
theorem upA_ne (G : gH) {a q : Nat} (e : gAE) (h : q ≠ a) : (gUpA G a e).1 q = G.1 q := by simp [gUpA, pu_up, h]
theorem upA_both (G : gH) {a q : Nat} (e : gAE) (h : q ≠ a) : (gUpA G a e).1 q = G.1 q ∧ (gUpA G a e).2.1 q = G.2.1 q := ⟨upA_ne G e h, rfl⟩
theorem len_at {G : gH} {a n : Nat} {ty : FieldType} {w : Bool} {f : Nat → Value} (h : G.1 a = some (ty, w, n, f)) : gLen G a = some (nI n) := by simp [gLen, h, nI]
theorem up_fill {z s j : Nat} : updV (fun i => if i < j then Value.ref (z + s * i) else Value.null) j (.ref (z + s * j)) = fun i => if i < j + 1 then Value.ref (z + s * i) else Value.null := by
  funext i
  unfold updV
  by_cases h : i = j
  · subst h; rw [if_pos rfl, if_pos (by omega)]
  · rw [if_neg h]
    show (if i < j then Value.ref (z + s * i) else Value.null) = _
    by_cases h2 : i < j
    · rw [if_pos h2, if_pos (by omega)]
    · rw [if_neg h2, if_neg (by omega)]
set_option maxRecDepth 100000 in
set_option maxHeartbeats 4000000 in
theorem loop_found {v : Nat → Nat} {a c z : Nat} {fs : List Value} (hfs : fs[1]? = some (.ref c)) (hc : c < z) (ha : a < z) :
    ∀ (d j n : Nat) (G : gH) (kc nc : Nat), j + d = 40 → d < n → G.2.1 a = some (1, fs) → G.1 c = some (.object "TarForms$Found", true, 40, fun i => if i < j then .ref (z + 6 * i) else .null) → G.2.2 = z + 6 * j → (∀ i, i < j → Found0 G (z + 6 * i)) → kc + 6 * d ≤ 300 → nc + 903 * d ≤ 45000 →
      ∃ G', lX1_init_91 v n G a (nI j) kc nc = some G' ∧ G'.2.1 a = some (1, fs) ∧ G'.1 c = some (.object "TarForms$Found", true, 40, fun i => if i < 40 then .ref (z + 6 * i) else .null) ∧ G'.2.2 = z + 6 * 40 ∧ (∀ i, i < 40 → Found0 G' (z + 6 * i)) ∧ (∀ q, q < z → q ≠ c → G'.1 q = G.1 q) ∧ ∀ q, q < z → G'.2.1 q = G.2.1 q := by
  intro d
  induction d with
  | zero =>
    intro j n G kc nc hj hn ho hA hz hF hk hnc
    obtain ⟨m, rfl⟩ : ∃ m, n = m + 1 := ⟨n - 1, by omega⟩
    have hj : j = 40 := by omega
    subst hj
    have c1 : kc ≤ 300 ∧ nc ≤ 45000 := ⟨by omega, by omega⟩
    refine ⟨G, ?_, ho, hA, hz, hF, fun _ _ _ => rfl, fun _ _ => rfl⟩
    show bX1_init_91 v (lX1_init_91 v m) G a (nI 40) kc nc = some G
    unfold bX1_init_91
    rw [gR_at ho hfs, Option.bind_some, len_at hA, Option.bind_some, if_pos (nI_le (Nat.le_refl _) (by decide)), if_pos c1]
  | succ d ih =>
    intro j n G kc nc hj hn ho hA hz hF hk hnc
    obtain ⟨m, rfl⟩ : ∃ m, n = m + 1 := ⟨n - 1, by omega⟩
    have hj40 : j < 40 := by omega
    have c1 : kc + 1 ≤ 300 ∧ nc + 3 ≤ 45000 := ⟨by omega, by omega⟩
    have c2 : kc + 1 + 5 ≤ 300 ∧ nc + 3 + 900 ≤ 45000 := ⟨by omega, by omega⟩
    obtain ⟨G6, hG6⟩ : ∃ z, z = gPushO G (5, [.null, .null, .null]) := ⟨_, rfl⟩
    have l6 : Lo G G6 (z + 6 * j) := by rw [hG6, ← hz]; exact lo_pushO _ _
    have r6 : G6.2.1 (z + 6 * j) = some (5, [.null, .null, .null]) := by rw [hG6, ← hz]; exact at_pushO _ _
    have z6 : G6.2.2 = z + 6 * j + 1 := by rw [hG6]; show G.2.2 + 1 = _; rw [hz]
    obtain ⟨G10, e10, l10, z10, k10⟩ := n_found (v := v) r6 z6
    have l : Lo G G10 (z + 6 * j) := l6.tr l10
    have hA10 : G10.1 c = some (.object "TarForms$Found", true, 40, fun i => if i < j then .ref (z + 6 * i) else .null) := by rw [(l c (by omega)).1]; exact hA
    have ho10 : G10.2.1 a = some (1, fs) := by rw [(l a (by omega)).2]; exact ho
    have hob : gOb G10 (z + 6 * j) 5 = some () := by
      have := k10.1
      simp [gOb, this]
    have est := st_ref (x := .ref (z + 6 * j)) hA10 hj40 (by decide)
    rw [up_fill] at est
    obtain ⟨G11, hG11⟩ : ∃ y, y = gUpA G10 c (.object "TarForms$Found", true, 40, fun i => if i < j + 1 then .ref (z + 6 * i) else .null) := ⟨_, rfl⟩
    rw [← hG11] at est
    have a11 : G11.1 c = some (.object "TarForms$Found", true, 40, fun i => if i < j + 1 then .ref (z + 6 * i) else .null) := by rw [hG11]; exact upA_at _ _ _
    have b11 : ∀ q, q ≠ c → G11.1 q = G10.1 q ∧ G11.2.1 q = G10.2.1 q := fun q hq => by rw [hG11]; exact upA_both _ _ hq
    have o11 : G11.2.1 = G10.2.1 := by rw [hG11]; rfl
    have z11 : G11.2.2 = z + 6 * (j + 1) := by rw [hG11]; show G10.2.2 = _; rw [z10]; omega
    have F11 : ∀ i, i < j + 1 → Found0 G11 (z + 6 * i) := by
      intro i hi
      by_cases hij : i = j
      · subst hij
        exact k10.ag (fun q h1 h2 => b11 q (by omega))
      · exact (hF i (by omega)).ag (fun q h1 h2 => by
          have e1 := b11 q (by omega)
          have e2 := l q (by omega)
          exact ⟨e1.1.trans e2.1, e1.2.trans e2.2⟩)
    obtain ⟨G', e', p1, p2, p3, p4, p5, p6⟩ := ih (j + 1) m G11 (kc + 1 + 5) (nc + 3 + 900) (by omega) (by omega) (by rw [o11]; exact ho10) a11 z11 F11 (by omega) (by omega)
    refine ⟨G', ?_, p1, p2, p3, p4, fun q h1 h2 => ?_, fun q h1 => ?_⟩
    · show bX1_init_91 v (lX1_init_91 v m) G a (nI j) kc nc = some G'
      unfold bX1_init_91
      rw [gR_at ho hfs, Option.bind_some, len_at hA, Option.bind_some, if_neg (nI_ge hj40 (by decide)), Option.bind_some, if_pos c1, Option.bind_some, ← hG6, if_pos c2, hz, e10, Option.bind_some, hob, Option.bind_some, est, Option.bind_some, Option.bind_some, show nI j + 1 = nI (j + 1) from nI_1 j]
      exact e'
    · rw [p5 q h1 h2, (b11 q h2).1, (l q (by omega)).1]
    · rw [p6 q h1, o11, (l q (by omega)).2]
set_option maxRecDepth 100000 in
set_option maxHeartbeats 4000000 in
theorem loop_entry {v : Nat → Nat} {a c z : Nat} {fs : List Value} (hfs : fs[2]? = some (.ref c)) (hc : c < z) (ha : a < z) :
    ∀ (d j n : Nat) (G : gH) (kc nc : Nat), j + d = 9 → d < n → G.2.1 a = some (9, fs) → G.1 c = some (.object "TarForms$Entry", true, 9, fun i => if i < j then .ref (z + 6 * i) else .null) → G.2.2 = z + 6 * j → (∀ i, i < j → Entry0 G (z + 6 * i)) → kc + 6 * d ≤ 400 → nc + 906 * d ≤ 100000 →
      ∃ G', lX10_init_77 v n G a (nI j) kc nc = some G' ∧ G'.2.1 a = some (9, fs) ∧ G'.1 c = some (.object "TarForms$Entry", true, 9, fun i => if i < 9 then .ref (z + 6 * i) else .null) ∧ G'.2.2 = z + 6 * 9 ∧ (∀ i, i < 9 → Entry0 G' (z + 6 * i)) ∧ (∀ q, q < z → q ≠ c → G'.1 q = G.1 q) ∧ ∀ q, q < z → G'.2.1 q = G.2.1 q := by
  intro d
  induction d with
  | zero =>
    intro j n G kc nc hj hn ho hA hz hF hk hnc
    obtain ⟨m, rfl⟩ : ∃ m, n = m + 1 := ⟨n - 1, by omega⟩
    have hj : j = 9 := by omega
    subst hj
    have c1 : kc ≤ 400 ∧ nc ≤ 100000 := ⟨by omega, by omega⟩
    refine ⟨G, ?_, ho, hA, hz, hF, fun _ _ _ => rfl, fun _ _ => rfl⟩
    show bX10_init_77 v (lX10_init_77 v m) G a (nI 9) kc nc = some G
    unfold bX10_init_77
    rw [gR_at ho hfs, Option.bind_some, len_at hA, Option.bind_some, if_pos (nI_le (Nat.le_refl _) (by decide)), if_pos c1]
  | succ d ih =>
    intro j n G kc nc hj hn ho hA hz hF hk hnc
    obtain ⟨m, rfl⟩ : ∃ m, n = m + 1 := ⟨n - 1, by omega⟩
    have hj40 : j < 9 := by omega
    have c1 : kc + 1 ≤ 400 ∧ nc + 6 ≤ 100000 := ⟨by omega, by omega⟩
    have c2 : kc + 1 + 5 ≤ 400 ∧ nc + 6 + 900 ≤ 100000 := ⟨by omega, by omega⟩
    obtain ⟨G6, hG6⟩ : ∃ z, z = gPushO G (3, [.null, .null, .null, .int 0, .int 0, .int 0]) := ⟨_, rfl⟩
    have l6 : Lo G G6 (z + 6 * j) := by rw [hG6, ← hz]; exact lo_pushO _ _
    have r6 : G6.2.1 (z + 6 * j) = some (3, [.null, .null, .null, .int 0, .int 0, .int 0]) := by rw [hG6, ← hz]; exact at_pushO _ _
    have z6 : G6.2.2 = z + 6 * j + 1 := by rw [hG6]; show G.2.2 + 1 = _; rw [hz]
    obtain ⟨G10, e10, l10, z10, k10⟩ := n_entry (v := v) r6 z6
    have l : Lo G G10 (z + 6 * j) := l6.tr l10
    have hA10 : G10.1 c = some (.object "TarForms$Entry", true, 9, fun i => if i < j then .ref (z + 6 * i) else .null) := by rw [(l c (by omega)).1]; exact hA
    have ho10 : G10.2.1 a = some (9, fs) := by rw [(l a (by omega)).2]; exact ho
    have hob : gOb G10 (z + 6 * j) 3 = some () := by
      have := k10.1
      simp [gOb, this]
    have est := st_ref (x := .ref (z + 6 * j)) hA10 hj40 (by decide)
    rw [up_fill] at est
    obtain ⟨G11, hG11⟩ : ∃ y, y = gUpA G10 c (.object "TarForms$Entry", true, 9, fun i => if i < j + 1 then .ref (z + 6 * i) else .null) := ⟨_, rfl⟩
    rw [← hG11] at est
    have a11 : G11.1 c = some (.object "TarForms$Entry", true, 9, fun i => if i < j + 1 then .ref (z + 6 * i) else .null) := by rw [hG11]; exact upA_at _ _ _
    have b11 : ∀ q, q ≠ c → G11.1 q = G10.1 q ∧ G11.2.1 q = G10.2.1 q := fun q hq => by rw [hG11]; exact upA_both _ _ hq
    have o11 : G11.2.1 = G10.2.1 := by rw [hG11]; rfl
    have z11 : G11.2.2 = z + 6 * (j + 1) := by rw [hG11]; show G10.2.2 = _; rw [z10]; omega
    have F11 : ∀ i, i < j + 1 → Entry0 G11 (z + 6 * i) := by
      intro i hi
      by_cases hij : i = j
      · subst hij
        exact k10.ag (fun q h1 h2 => b11 q (by omega))
      · exact (hF i (by omega)).ag (fun q h1 h2 => by
          have e1 := b11 q (by omega)
          have e2 := l q (by omega)
          exact ⟨e1.1.trans e2.1, e1.2.trans e2.2⟩)
    obtain ⟨G', e', p1, p2, p3, p4, p5, p6⟩ := ih (j + 1) m G11 (kc + 1 + 5) (nc + 6 + 900) (by omega) (by omega) (by rw [o11]; exact ho10) a11 z11 F11 (by omega) (by omega)
    refine ⟨G', ?_, p1, p2, p3, p4, fun q h1 h2 => ?_, fun q h1 => ?_⟩
    · show bX10_init_77 v (lX10_init_77 v m) G a (nI j) kc nc = some G'
      unfold bX10_init_77
      rw [gR_at ho hfs, Option.bind_some, len_at hA, Option.bind_some, if_neg (nI_ge hj40 (by decide)), Option.bind_some, if_pos c1, Option.bind_some, ← hG6, if_pos c2, hz, e10, Option.bind_some, hob, Option.bind_some, est, Option.bind_some, Option.bind_some, show nI j + 1 = nI (j + 1) from nI_1 j]
      exact e'
    · rw [p5 q h1 h2, (b11 q h2).1, (l q (by omega)).1]
    · rw [p6 q h1, o11, (l q (by omega)).2]
