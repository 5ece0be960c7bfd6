/-! branches, returns, calls -/
section GCTRL
variable {p : Program} {l : Launch} {e : Env} {R : Room} {s : State} {m : MethodId} {args : Array Value} {below : List Frame} {meth : Method} {c : Code} {H : Heap} {locs : List Loc} {cells slots : Nat} {Q : State → Prop}
variable {cc : ByteArray} {pc : Nat} {ls : Array Slot} {rest : List Value} {B0 : Nat} {D : va_G} {v : Nat → Nat} {G : gH} {own : String} {β : Type} {r : β} {Fa Fb : Option β} {off : Int} {tgt : Nat}
theorem g_br {P : Prop} {d : Decidable P} {A B : Prop} (hf : (@ite _ P d Fa Fb) = some r) (ht : P → Fa = some r → A) (he : ¬ P → Fb = some r → B) : (P → A) ∧ (¬ P → B) :=
  ⟨fun h => ht h (by rw [if_pos h] at hf; exact hf), fun h => he h (by rw [if_neg h] at hf; exact hf)⟩
theorem g_icmp_eq {x y : Int32} (hx : p.tables.exec = Jvm.exec) (hb : c.code = cc) (hdg : decode cc pc = .ok (.if_icmp .eq off, 3)) (ht : (pc : Int) + off = (tgt : Int)) {d : Decidable (x = y)} (hf : (@ite _ (x = y) d Fa Fb) = some r)
    (kt : x = y → Fa = some r → W p l e R s m args below meth c H locs cells slots Q (F0 m tgt ls rest)) (kf : ¬ (x = y) → Fb = some r → W p l e R s m args below meth c H locs cells slots Q (F0 m (pc + 3) ls rest)) : W p l e R s m args below meth c H locs cells slots Q (F0 m pc ls (.int y :: .int x :: rest)) :=
  lv_icmp_eq hx hb hdg ht (g_br hf kt kf).1 (g_br hf kt kf).2
theorem g_if_eq {x : Int32} (hx : p.tables.exec = Jvm.exec) (hb : c.code = cc) (hdg : decode cc pc = .ok (.ifCond .eq off, 3)) (ht : (pc : Int) + off = (tgt : Int)) {d : Decidable (x = 0)} (hf : (@ite _ (x = 0) d Fa Fb) = some r)
    (kt : x = 0 → Fa = some r → W p l e R s m args below meth c H locs cells slots Q (F0 m tgt ls rest)) (kf : ¬ (x = 0) → Fb = some r → W p l e R s m args below meth c H locs cells slots Q (F0 m (pc + 3) ls rest)) : W p l e R s m args below meth c H locs cells slots Q (F0 m pc ls (.int x :: rest)) :=
  lv_if_eq hx hb hdg ht (g_br hf kt kf).1 (g_br hf kt kf).2
theorem g_icmp_ne {x y : Int32} (hx : p.tables.exec = Jvm.exec) (hb : c.code = cc) (hdg : decode cc pc = .ok (.if_icmp .ne off, 3)) (ht : (pc : Int) + off = (tgt : Int)) {d : Decidable (x = y)} (hf : (@ite _ (x = y) d Fb Fa) = some r)
    (kt : ¬ x = y → Fa = some r → W p l e R s m args below meth c H locs cells slots Q (F0 m tgt ls rest)) (kf : x = y → Fb = some r → W p l e R s m args below meth c H locs cells slots Q (F0 m (pc + 3) ls rest)) : W p l e R s m args below meth c H locs cells slots Q (F0 m pc ls (.int y :: .int x :: rest)) :=
  lv_icmp_ne hx hb hdg ht (g_br hf kf kt).2 (g_br hf kf kt).1
theorem g_if_ne {x : Int32} (hx : p.tables.exec = Jvm.exec) (hb : c.code = cc) (hdg : decode cc pc = .ok (.ifCond .ne off, 3)) (ht : (pc : Int) + off = (tgt : Int)) {d : Decidable (x = 0)} (hf : (@ite _ (x = 0) d Fb Fa) = some r)
    (kt : ¬ x = 0 → Fa = some r → W p l e R s m args below meth c H locs cells slots Q (F0 m tgt ls rest)) (kf : x = 0 → Fb = some r → W p l e R s m args below meth c H locs cells slots Q (F0 m (pc + 3) ls rest)) : W p l e R s m args below meth c H locs cells slots Q (F0 m pc ls (.int x :: rest)) :=
  lv_if_ne hx hb hdg ht (g_br hf kf kt).2 (g_br hf kf kt).1
theorem g_icmp_lt {x y : Int32} (hx : p.tables.exec = Jvm.exec) (hb : c.code = cc) (hdg : decode cc pc = .ok (.if_icmp .lt off, 3)) (ht : (pc : Int) + off = (tgt : Int)) {d : Decidable (x < y)} (hf : (@ite _ (x < y) d Fa Fb) = some r)
    (kt : x < y → Fa = some r → W p l e R s m args below meth c H locs cells slots Q (F0 m tgt ls rest)) (kf : ¬ (x < y) → Fb = some r → W p l e R s m args below meth c H locs cells slots Q (F0 m (pc + 3) ls rest)) : W p l e R s m args below meth c H locs cells slots Q (F0 m pc ls (.int y :: .int x :: rest)) :=
  lv_icmp_lt hx hb hdg ht (g_br hf kt kf).1 (g_br hf kt kf).2
theorem g_if_lt {x : Int32} (hx : p.tables.exec = Jvm.exec) (hb : c.code = cc) (hdg : decode cc pc = .ok (.ifCond .lt off, 3)) (ht : (pc : Int) + off = (tgt : Int)) {d : Decidable (x < 0)} (hf : (@ite _ (x < 0) d Fa Fb) = some r)
    (kt : x < 0 → Fa = some r → W p l e R s m args below meth c H locs cells slots Q (F0 m tgt ls rest)) (kf : ¬ (x < 0) → Fb = some r → W p l e R s m args below meth c H locs cells slots Q (F0 m (pc + 3) ls rest)) : W p l e R s m args below meth c H locs cells slots Q (F0 m pc ls (.int x :: rest)) :=
  lv_if_lt hx hb hdg ht (g_br hf kt kf).1 (g_br hf kt kf).2
theorem g_icmp_ge {x y : Int32} (hx : p.tables.exec = Jvm.exec) (hb : c.code = cc) (hdg : decode cc pc = .ok (.if_icmp .ge off, 3)) (ht : (pc : Int) + off = (tgt : Int)) {d : Decidable (y ≤ x)} (hf : (@ite _ (y ≤ x) d Fa Fb) = some r)
    (kt : y ≤ x → Fa = some r → W p l e R s m args below meth c H locs cells slots Q (F0 m tgt ls rest)) (kf : ¬ (y ≤ x) → Fb = some r → W p l e R s m args below meth c H locs cells slots Q (F0 m (pc + 3) ls rest)) : W p l e R s m args below meth c H locs cells slots Q (F0 m pc ls (.int y :: .int x :: rest)) :=
  lv_icmp_ge hx hb hdg ht (g_br hf kt kf).1 (g_br hf kt kf).2
theorem g_if_ge {x : Int32} (hx : p.tables.exec = Jvm.exec) (hb : c.code = cc) (hdg : decode cc pc = .ok (.ifCond .ge off, 3)) (ht : (pc : Int) + off = (tgt : Int)) {d : Decidable (0 ≤ x)} (hf : (@ite _ (0 ≤ x) d Fa Fb) = some r)
    (kt : 0 ≤ x → Fa = some r → W p l e R s m args below meth c H locs cells slots Q (F0 m tgt ls rest)) (kf : ¬ (0 ≤ x) → Fb = some r → W p l e R s m args below meth c H locs cells slots Q (F0 m (pc + 3) ls rest)) : W p l e R s m args below meth c H locs cells slots Q (F0 m pc ls (.int x :: rest)) :=
  lv_if_ge hx hb hdg ht (g_br hf kt kf).1 (g_br hf kt kf).2
theorem g_icmp_gt {x y : Int32} (hx : p.tables.exec = Jvm.exec) (hb : c.code = cc) (hdg : decode cc pc = .ok (.if_icmp .gt off, 3)) (ht : (pc : Int) + off = (tgt : Int)) {d : Decidable (y < x)} (hf : (@ite _ (y < x) d Fa Fb) = some r)
    (kt : y < x → Fa = some r → W p l e R s m args below meth c H locs cells slots Q (F0 m tgt ls rest)) (kf : ¬ (y < x) → Fb = some r → W p l e R s m args below meth c H locs cells slots Q (F0 m (pc + 3) ls rest)) : W p l e R s m args below meth c H locs cells slots Q (F0 m pc ls (.int y :: .int x :: rest)) :=
  lv_icmp_gt hx hb hdg ht (g_br hf kt kf).1 (g_br hf kt kf).2
theorem g_if_gt {x : Int32} (hx : p.tables.exec = Jvm.exec) (hb : c.code = cc) (hdg : decode cc pc = .ok (.ifCond .gt off, 3)) (ht : (pc : Int) + off = (tgt : Int)) {d : Decidable (0 < x)} (hf : (@ite _ (0 < x) d Fa Fb) = some r)
    (kt : 0 < x → Fa = some r → W p l e R s m args below meth c H locs cells slots Q (F0 m tgt ls rest)) (kf : ¬ (0 < x) → Fb = some r → W p l e R s m args below meth c H locs cells slots Q (F0 m (pc + 3) ls rest)) : W p l e R s m args below meth c H locs cells slots Q (F0 m pc ls (.int x :: rest)) :=
  lv_if_gt hx hb hdg ht (g_br hf kt kf).1 (g_br hf kt kf).2
theorem g_icmp_le {x y : Int32} (hx : p.tables.exec = Jvm.exec) (hb : c.code = cc) (hdg : decode cc pc = .ok (.if_icmp .le off, 3)) (ht : (pc : Int) + off = (tgt : Int)) {d : Decidable (x ≤ y)} (hf : (@ite _ (x ≤ y) d Fa Fb) = some r)
    (kt : x ≤ y → Fa = some r → W p l e R s m args below meth c H locs cells slots Q (F0 m tgt ls rest)) (kf : ¬ (x ≤ y) → Fb = some r → W p l e R s m args below meth c H locs cells slots Q (F0 m (pc + 3) ls rest)) : W p l e R s m args below meth c H locs cells slots Q (F0 m pc ls (.int y :: .int x :: rest)) :=
  lv_icmp_le hx hb hdg ht (g_br hf kt kf).1 (g_br hf kt kf).2
theorem g_if_le {x : Int32} (hx : p.tables.exec = Jvm.exec) (hb : c.code = cc) (hdg : decode cc pc = .ok (.ifCond .le off, 3)) (ht : (pc : Int) + off = (tgt : Int)) {d : Decidable (x ≤ 0)} (hf : (@ite _ (x ≤ 0) d Fa Fb) = some r)
    (kt : x ≤ 0 → Fa = some r → W p l e R s m args below meth c H locs cells slots Q (F0 m tgt ls rest)) (kf : ¬ (x ≤ 0) → Fb = some r → W p l e R s m args below meth c H locs cells slots Q (F0 m (pc + 3) ls rest)) : W p l e R s m args below meth c H locs cells slots Q (F0 m pc ls (.int x :: rest)) :=
  lv_if_le hx hb hdg ht (g_br hf kt kf).1 (g_br hf kt kf).2
theorem g_cmp_eq (x y : Int64) : (lg_cmp x y = 0) ↔ x = y := by
  unfold lg_cmp
  simp only [gt_iff_lt]
  by_cases h1 : y < x
  · rw [if_pos h1]
    simp only [Int64.lt_iff_toInt_lt, Int64.le_iff_toInt_le, ← Int64.toInt_inj] at h1 ⊢
    constructor <;> intro h2 <;> first | (exfalso; revert h2; decide) | (exfalso; omega) | omega | decide
  · rw [if_neg h1]
    by_cases h3 : x = y
    · rw [if_pos h3]
      subst h3
      clear h1
      constructor <;> intro h2 <;> first | rfl | decide | exact Int64.le_refl _ | (exfalso; revert h2; decide) | (exfalso; simp only [Int64.lt_iff_toInt_lt] at h2; omega)
    · rw [if_neg h3]
      simp only [Int64.lt_iff_toInt_lt, Int64.le_iff_toInt_le, ← Int64.toInt_inj] at h1 h3 ⊢
      constructor <;> intro h2 <;> first | (exfalso; revert h2; decide) | (exfalso; omega) | omega | decide
theorem g_lif_eq {x y : Int64} (hx : p.tables.exec = Jvm.exec) (hb : c.code = cc) (hd0 : decode cc pc = .ok (.lcmp, 1)) (hdg : decode cc (pc + 1) = .ok (.ifCond .eq off, 3)) (ht : ((pc + 1 : Nat) : Int) + off = (tgt : Int)) {d : Decidable (x = y)} (hf : (@ite _ (x = y) d Fa Fb) = some r)
    (kt : x = y → Fa = some r → W p l e R s m args below meth c H locs cells slots Q (F0 m tgt ls rest)) (kf : ¬ (x = y) → Fb = some r → W p l e R s m args below meth c H locs cells slots Q (F0 m (pc + 4) ls rest)) : W p l e R s m args below meth c H locs cells slots Q (F0 m pc ls (.long y :: .long x :: rest)) :=
  W.lcmp hx hb hd0 (lv_if_eq hx hb hdg ht (fun h => (g_br hf kt kf).1 ((g_cmp_eq x y).mp h)) (fun h => (g_br hf kt kf).2 (fun z => h ((g_cmp_eq x y).mpr z))))
theorem g_lif_ne {x y : Int64} (hx : p.tables.exec = Jvm.exec) (hb : c.code = cc) (hd0 : decode cc pc = .ok (.lcmp, 1)) (hdg : decode cc (pc + 1) = .ok (.ifCond .ne off, 3)) (ht : ((pc + 1 : Nat) : Int) + off = (tgt : Int)) {d : Decidable (x = y)} (hf : (@ite _ (x = y) d Fb Fa) = some r)
    (kt : ¬ x = y → Fa = some r → W p l e R s m args below meth c H locs cells slots Q (F0 m tgt ls rest)) (kf : x = y → Fb = some r → W p l e R s m args below meth c H locs cells slots Q (F0 m (pc + 4) ls rest)) : W p l e R s m args below meth c H locs cells slots Q (F0 m pc ls (.long y :: .long x :: rest)) :=
  W.lcmp hx hb hd0 (lv_if_ne hx hb hdg ht (fun h => (g_br hf kf kt).2 (fun z => h ((g_cmp_eq x y).mpr z))) (fun h => (g_br hf kf kt).1 ((g_cmp_eq x y).mp h)))
theorem g_cmp_lt (x y : Int64) : (lg_cmp x y < 0) ↔ x < y := by
  unfold lg_cmp
  simp only [gt_iff_lt]
  by_cases h1 : y < x
  · rw [if_pos h1]
    simp only [Int64.lt_iff_toInt_lt, Int64.le_iff_toInt_le, ← Int64.toInt_inj] at h1 ⊢
    constructor <;> intro h2 <;> first | (exfalso; revert h2; decide) | (exfalso; omega) | omega | decide
  · rw [if_neg h1]
    by_cases h3 : x = y
    · rw [if_pos h3]
      subst h3
      clear h1
      constructor <;> intro h2 <;> first | rfl | decide | exact Int64.le_refl _ | (exfalso; revert h2; decide) | (exfalso; simp only [Int64.lt_iff_toInt_lt] at h2; omega)
    · rw [if_neg h3]
      simp only [Int64.lt_iff_toInt_lt, Int64.le_iff_toInt_le, ← Int64.toInt_inj] at h1 h3 ⊢
      constructor <;> intro h2 <;> first | (exfalso; revert h2; decide) | (exfalso; omega) | omega | decide
theorem g_lif_lt {x y : Int64} (hx : p.tables.exec = Jvm.exec) (hb : c.code = cc) (hd0 : decode cc pc = .ok (.lcmp, 1)) (hdg : decode cc (pc + 1) = .ok (.ifCond .lt off, 3)) (ht : ((pc + 1 : Nat) : Int) + off = (tgt : Int)) {d : Decidable (x < y)} (hf : (@ite _ (x < y) d Fa Fb) = some r)
    (kt : x < y → Fa = some r → W p l e R s m args below meth c H locs cells slots Q (F0 m tgt ls rest)) (kf : ¬ (x < y) → Fb = some r → W p l e R s m args below meth c H locs cells slots Q (F0 m (pc + 4) ls rest)) : W p l e R s m args below meth c H locs cells slots Q (F0 m pc ls (.long y :: .long x :: rest)) :=
  W.lcmp hx hb hd0 (lv_if_lt hx hb hdg ht (fun h => (g_br hf kt kf).1 ((g_cmp_lt x y).mp h)) (fun h => (g_br hf kt kf).2 (fun z => h ((g_cmp_lt x y).mpr z))))
theorem g_cmp_ge (x y : Int64) : (0 ≤ lg_cmp x y) ↔ y ≤ x := by
  unfold lg_cmp
  simp only [gt_iff_lt]
  by_cases h1 : y < x
  · rw [if_pos h1]
    simp only [Int64.lt_iff_toInt_lt, Int64.le_iff_toInt_le, ← Int64.toInt_inj] at h1 ⊢
    constructor <;> intro h2 <;> first | (exfalso; revert h2; decide) | (exfalso; omega) | omega | decide
  · rw [if_neg h1]
    by_cases h3 : x = y
    · rw [if_pos h3]
      subst h3
      clear h1
      constructor <;> intro h2 <;> first | rfl | decide | exact Int64.le_refl _ | (exfalso; revert h2; decide) | (exfalso; simp only [Int64.lt_iff_toInt_lt] at h2; omega)
    · rw [if_neg h3]
      simp only [Int64.lt_iff_toInt_lt, Int64.le_iff_toInt_le, ← Int64.toInt_inj] at h1 h3 ⊢
      constructor <;> intro h2 <;> first | (exfalso; revert h2; decide) | (exfalso; omega) | omega | decide
theorem g_lif_ge {x y : Int64} (hx : p.tables.exec = Jvm.exec) (hb : c.code = cc) (hd0 : decode cc pc = .ok (.lcmp, 1)) (hdg : decode cc (pc + 1) = .ok (.ifCond .ge off, 3)) (ht : ((pc + 1 : Nat) : Int) + off = (tgt : Int)) {d : Decidable (y ≤ x)} (hf : (@ite _ (y ≤ x) d Fa Fb) = some r)
    (kt : y ≤ x → Fa = some r → W p l e R s m args below meth c H locs cells slots Q (F0 m tgt ls rest)) (kf : ¬ (y ≤ x) → Fb = some r → W p l e R s m args below meth c H locs cells slots Q (F0 m (pc + 4) ls rest)) : W p l e R s m args below meth c H locs cells slots Q (F0 m pc ls (.long y :: .long x :: rest)) :=
  W.lcmp hx hb hd0 (lv_if_ge hx hb hdg ht (fun h => (g_br hf kt kf).1 ((g_cmp_ge x y).mp h)) (fun h => (g_br hf kt kf).2 (fun z => h ((g_cmp_ge x y).mpr z))))
theorem g_cmp_gt (x y : Int64) : (0 < lg_cmp x y) ↔ y < x := by
  unfold lg_cmp
  simp only [gt_iff_lt]
  by_cases h1 : y < x
  · rw [if_pos h1]
    simp only [Int64.lt_iff_toInt_lt, Int64.le_iff_toInt_le, ← Int64.toInt_inj] at h1 ⊢
    constructor <;> intro h2 <;> first | (exfalso; revert h2; decide) | (exfalso; omega) | omega | decide
  · rw [if_neg h1]
    by_cases h3 : x = y
    · rw [if_pos h3]
      subst h3
      clear h1
      constructor <;> intro h2 <;> first | rfl | decide | exact Int64.le_refl _ | (exfalso; revert h2; decide) | (exfalso; simp only [Int64.lt_iff_toInt_lt] at h2; omega)
    · rw [if_neg h3]
      simp only [Int64.lt_iff_toInt_lt, Int64.le_iff_toInt_le, ← Int64.toInt_inj] at h1 h3 ⊢
      constructor <;> intro h2 <;> first | (exfalso; revert h2; decide) | (exfalso; omega) | omega | decide
theorem g_lif_gt {x y : Int64} (hx : p.tables.exec = Jvm.exec) (hb : c.code = cc) (hd0 : decode cc pc = .ok (.lcmp, 1)) (hdg : decode cc (pc + 1) = .ok (.ifCond .gt off, 3)) (ht : ((pc + 1 : Nat) : Int) + off = (tgt : Int)) {d : Decidable (y < x)} (hf : (@ite _ (y < x) d Fa Fb) = some r)
    (kt : y < x → Fa = some r → W p l e R s m args below meth c H locs cells slots Q (F0 m tgt ls rest)) (kf : ¬ (y < x) → Fb = some r → W p l e R s m args below meth c H locs cells slots Q (F0 m (pc + 4) ls rest)) : W p l e R s m args below meth c H locs cells slots Q (F0 m pc ls (.long y :: .long x :: rest)) :=
  W.lcmp hx hb hd0 (lv_if_gt hx hb hdg ht (fun h => (g_br hf kt kf).1 ((g_cmp_gt x y).mp h)) (fun h => (g_br hf kt kf).2 (fun z => h ((g_cmp_gt x y).mpr z))))
theorem g_cmp_le (x y : Int64) : (lg_cmp x y ≤ 0) ↔ x ≤ y := by
  unfold lg_cmp
  simp only [gt_iff_lt]
  by_cases h1 : y < x
  · rw [if_pos h1]
    simp only [Int64.lt_iff_toInt_lt, Int64.le_iff_toInt_le, ← Int64.toInt_inj] at h1 ⊢
    constructor <;> intro h2 <;> first | (exfalso; revert h2; decide) | (exfalso; omega) | omega | decide
  · rw [if_neg h1]
    by_cases h3 : x = y
    · rw [if_pos h3]
      subst h3
      clear h1
      constructor <;> intro h2 <;> first | rfl | decide | exact Int64.le_refl _ | (exfalso; revert h2; decide) | (exfalso; simp only [Int64.lt_iff_toInt_lt] at h2; omega)
    · rw [if_neg h3]
      simp only [Int64.lt_iff_toInt_lt, Int64.le_iff_toInt_le, ← Int64.toInt_inj] at h1 h3 ⊢
      constructor <;> intro h2 <;> first | (exfalso; revert h2; decide) | (exfalso; omega) | omega | decide
theorem g_lif_le {x y : Int64} (hx : p.tables.exec = Jvm.exec) (hb : c.code = cc) (hd0 : decode cc pc = .ok (.lcmp, 1)) (hdg : decode cc (pc + 1) = .ok (.ifCond .le off, 3)) (ht : ((pc + 1 : Nat) : Int) + off = (tgt : Int)) {d : Decidable (x ≤ y)} (hf : (@ite _ (x ≤ y) d Fa Fb) = some r)
    (kt : x ≤ y → Fa = some r → W p l e R s m args below meth c H locs cells slots Q (F0 m tgt ls rest)) (kf : ¬ (x ≤ y) → Fb = some r → W p l e R s m args below meth c H locs cells slots Q (F0 m (pc + 4) ls rest)) : W p l e R s m args below meth c H locs cells slots Q (F0 m pc ls (.long y :: .long x :: rest)) :=
  W.lcmp hx hb hd0 (lv_if_le hx hb hdg ht (fun h => (g_br hf kt kf).1 ((g_cmp_le x y).mp h)) (fun h => (g_br hf kt kf).2 (fun z => h ((g_cmp_le x y).mpr z))))
/-! returns: 'hf' says what is answered -/
theorem g_F {G1 : gH} {ov : Option Value} (hR : gRep B0 D v G s H) (hS : va_S (gA B0) s.heap H locs) (hG : G = G1) (t : State) (ht : t.heap = H) (hW : s.WarmedH t.vm) : gQ B0 D v ov G1 args s (.returned ov) t :=
  ⟨rfl, by rw [ht, ← hG]; exact hR.warm hW, hS.F ht⟩
theorem g_iret {x y : Int32} {G1 : gH} (hx : p.tables.exec = Jvm.exec) (hb : c.code = cc) (hr : meth.sig.returnType = some .int) (hlocks : meth.locks = false) (hR : gRep B0 D v G s H) (hS : va_S (gA B0) s.heap H locs) (hdg : decode cc pc = .ok (.ireturn, 1)) (hv : x = y) (hG : G = G1) : W p l e R s m args below meth c H locs cells slots (MQ below (gQ B0 D v (some (.int y)) G1) args s cells slots (gA B0)) (F0 m pc ls [.int x]) := by
  subst hv
  exact W.iret hx hb hr (fun t ht hW => g_F hR hS hG t ht hW) hS.2.2 hdg hlocks
theorem g_zret {x y : Int32} {ty : FieldType} {G1 : gH} (hx : p.tables.exec = Jvm.exec) (hb : c.code = cc) (hr : meth.sig.returnType = some ty) (hlocks : meth.locks = false) (hR : gRep B0 D v G s H) (hS : va_S (gA B0) s.heap H locs) (hdg : decode cc pc = .ok (.ireturn, 1)) (hn : narrow ty (.int x) = .int x) (hv : x = y) (hG : G = G1) : W p l e R s m args below meth c H locs cells slots (MQ below (gQ B0 D v (some (.int y)) G1) args s cells slots (gA B0)) (F0 m pc ls [.int x]) := by
  subst hv
  exact W.zret hx hb hr hn (fun t ht hW => g_F hR hS hG t ht hW) hS.2.2 hdg hlocks
theorem g_lret {x y : Int64} {G1 : gH} (hx : p.tables.exec = Jvm.exec) (hb : c.code = cc) (hr : meth.sig.returnType = some .long) (hlocks : meth.locks = false) (hR : gRep B0 D v G s H) (hS : va_S (gA B0) s.heap H locs) (hdg : decode cc pc = .ok (.lreturn, 1)) (hv : x = y) (hG : G = G1) : W p l e R s m args below meth c H locs cells slots (MQ below (gQ B0 D v (some (.long y)) G1) args s cells slots (gA B0)) (F0 m pc ls [.long x]) := by
  subst hv
  exact W.lret hx hb hr (fun t ht hW => g_F hR hS hG t ht hW) hS.2.2 hdg hlocks
theorem g_vret {G1 : gH} (hx : p.tables.exec = Jvm.exec) (hb : c.code = cc) (hr : meth.sig.returnType = none) (hlocks : meth.locks = false) (hR : gRep B0 D v G s H) (hS : va_S (gA B0) s.heap H locs) (hdg : decode cc pc = .ok (.return_, 1)) (hG : G = G1) : W p l e R s m args below meth c H locs cells slots (MQ below (gQ B0 D v none G1) args s cells slots (gA B0)) (F0 m pc ls []) :=
  W.vret hx hb hr (fun t ht hW => g_F hR hS hG t ht hW) hS.2.2 hdg hlocks
theorem g_aret {x y : Value} {rt : FieldType} {G1 : gH} (hx : p.tables.exec = Jvm.exec) (hb : c.code = cc) (hr : meth.sig.returnType = some rt) (hrt : (∃ n, rt = .object n) ∨ ∃ t, rt = .array t) (hlocks : meth.locks = false) (hR : gRep B0 D v G s H) (hS : va_S (gA B0) s.heap H locs) (hdg : decode cc pc = .ok (.areturn, 1)) (hk : x = .null ∨ ∃ a, x = .ref a) (hv : x = y) (hG : G = G1) : W p l e R s m args below meth c H locs cells slots (MQ below (gQ B0 D v (some y) G1) args s cells slots (gA B0)) (F0 m pc ls [x]) := by
  subst hv
  exact W.aret hx hb hr hrt hk (fun t ht hW => g_F hR hS hG t ht hW) hS.2.2 hdg hlocks
/-! calls -/
theorem gGood {w0 : Cond} {y : MethodName} {bytes : ByteArray} {maxL : Nat} {ret : Option FieldType} (h : Cond.code y bytes maxL ret ∈ gW) : GoodIn gW (Cond.code y bytes maxL ret :: gW) := by
  intro w hw
  rcases List.mem_cons.mp hw with rfl | hw
  · exact ⟨h, gW_good h⟩
  · exact ⟨hw, gW_good hw⟩
theorem g_after {y : Array Value} {mc ms : Nat} {ov : Option Value} {G1 : gH} {st0 : List Value} (hR : gRep B0 D v G s H) (hS : va_S (gA B0) s.heap H locs) (hrun : va_Run p l e R s m args below meth c H locs cells slots mc ms (F0 m pc ls st0) rest (gQ B0 D v ov G1 y) (gA B0))
    (kk : ∀ (H1 : Heap) (locs1 : List Loc), H.size ≤ H1.size → gRep B0 D v G1 s H1 → va_S (gA B0) s.heap H1 locs1 → W p l e R s m args below meth c H1 locs1 (cells + mc) (slots + ms) Q (F0 m (pc + 3) ls (ov.toList ++ rest))) : W p l e R s m args below meth c H locs cells slots Q (F0 m pc ls st0) := by
  intro T hT X
  obtain ⟨w, st₀, t, T', L, h0, X', hL, e1, e2, ⟨hv, hRt, hz, hk⟩, st⟩ := hrun T hT X
  cases hv
  rw [h0] at hz hk
  have hal : s.vm.Alike t.vm := by rw [← e2]; exact X'.warmed.alike
  obtain ⟨t2, a1, b1⟩ := kk T'.heap (locs ++ L) (by rw [e1]; exact hz)
    ⟨⟨Nat.le_trans hR.1.1 (by rw [e1]; exact hz), by rw [e1]; exact hRt.1.2⟩, hR.2.1, hR.2.2.1.kept (fun q h1 h2 => by rw [e1]; exact hk q h1 h2), fun q e' hq => by rw [e1]; exact (hRt.2.2.2.1 q e' hq).moved hal.symm, fun q e' hq => by rw [e1]; exact (hRt.2.2.2.2.1 q e' hq).moved hal.symm, hRt.2.2.2.2.2⟩
    ⟨Nat.le_trans hS.1 (by rw [e1]; exact hz), fun q h1 h2 => by rw [e1, hk q (Nat.lt_of_lt_of_le h1 hS.1) h2]; exact hS.2.1 q h1 h2, fun q hq => by
      rcases List.mem_append.mp hq with h | h
      · exact hS.2.2 q h
      · exact hL q h⟩ T' rfl X'
  exact ⟨t2, st t2 a1, b1⟩
theorem gOb_recv {a ci : Nat} {u : Unit} {y : MethodName} (hR : gRep B0 D v G s H) (h : gOb G a ci = some u) (hc : (ci = 1000 ∧ y.cls = "java/lang/String") ∨ ∃ r : vw_C, vwCl[ci]? = some r ∧ r.1 = y.cls) : ∃ cell : Cell, H[a]? = some cell ∧ cell.vm.isStatics = false ∧ s.vm.findClass y.cls = some cell.cls := by
  obtain ⟨fs, hG⟩ := gOb_spec h
  rcases hc with ⟨rfl, hy⟩ | ⟨q, hq, hy⟩
  · rcases hR.2.2.2.2.1 a _ hG with ⟨-, r, hr, -⟩ | ⟨-, b, -, ⟨cell, g1, g2, g3, -⟩, -⟩
    · cases hr
    · exact ⟨cell, g1, g2, by rw [hy]; exact g3⟩
  · obtain ⟨-, -, cell, g1, g2, g3, -⟩ := (hR.2.2.2.2.1 a _ hG).ours hq
    exact ⟨cell, g1, by rw [g3]; rfl, by rw [g2, ← hy]; exact (hR.2.1.1 ci q hq).2.1⟩
theorem g_callV {y : MethodName} {bytes : ByteArray} {maxL nL mc ms n idx ci b : Nat} {ret : Option FieldType} {rm : Room} {As : List Value} {ov : Option Value} {G1 : gH} {u : Unit} (hx : p.tables.exec = Jvm.exec) (hb : c.code = cc) (hml : c.maxLocals = nL) (hown : s.vm.findClass own = some m.cls) (hts : ∀ w ∈ gW, w.before args s = true) (hR : gRep B0 D v G s H) (hS : va_S (gA B0) s.heap H locs)
    (K : gKv own idx y bytes maxL ret ci n) (hM : Met l y (.code y bytes maxL ret :: gW) rm (gPre B0 D v (.ref b :: As) G) (gQ B0 D v ov G1) mc ms (gA B0)) (hob : gOb G b ci = some u) (hrm : rm.cells = mc ∧ rm.slots = ms ∧ rm.frames + 1 ≤ R.frames ∧ 8 + (maxL + 11) + rm.locals ≤ R.locals)
    (hsize : ls.size = nL) (hn : As.length = n) (hcat : (rest.map fun v => v.category).sum ≤ 8) (hdg : decode cc pc = .ok (.invokevirtual idx, 3)) (hroom : cells + mc ≤ R.cells ∧ slots + ms ≤ R.slots) {st0 : List Value} (hst : st0 = As.reverse ++ .ref b :: rest)
    (kk : ∀ (H1 : Heap) (locs1 : List Loc), H.size ≤ H1.size → gRep B0 D v G1 s H1 → va_S (gA B0) s.heap H1 locs1 → W p l e R s m args below meth c H1 locs1 (cells + mc) (slots + ms) Q (F0 m (pc + 3) ls (ov.toList ++ rest))) : W p l e R s m args below meth c H locs cells slots Q (F0 m pc ls st0) := by
  subst hst
  obtain ⟨k0, k1, k2, k3, k4, k5, k6⟩ := K
  refine g_after hR hS (va_runV (As := As) (rest := rest) (C := y.cls) (index := idx) (Ts := gW) (own := own) ⟨hx, hb, hml, hown, hts⟩ hM ⟨callB_of n hts (gGood (w0 := .returned) k1) rfl hrm.1 hrm.2.1 (hts _ k5) (hts _ k2) k6 hrm.2.2, hts _ k3, hts _ k4⟩ ⟨gPre.blind, gOb_recv hR hob k0, fun U hU hW => ⟨rfl, by rw [hU]; exact hR.warm hW⟩⟩ rfl hn hsize rfl (lv_room hcat) hdg hroom) kk
theorem g_callS {y : MethodName} {bytes : ByteArray} {maxL nL mc ms n idx : Nat} {ret : Option FieldType} {rm : Room} {As : List Value} {ov : Option Value} {G1 : gH} (hx : p.tables.exec = Jvm.exec) (hb : c.code = cc) (hml : c.maxLocals = nL) (hown : s.vm.findClass own = some m.cls) (hts : ∀ w ∈ gW, w.before args s = true) (hR : gRep B0 D v G s H) (hS : va_S (gA B0) s.heap H locs)
    (K : gKs own idx y bytes maxL ret n) (hM : Met l y (.code y bytes maxL ret :: gW) rm (gPre B0 D v As G) (gQ B0 D v ov G1) mc ms (gA B0)) (hrm : rm.cells = mc ∧ rm.slots = ms ∧ rm.frames + 1 ≤ R.frames ∧ 8 + (maxL + 11) + rm.locals ≤ R.locals)
    (hsize : ls.size = nL) (hn : As.length = n) (hcat : (rest.map fun v => v.category).sum ≤ 8) (hdg : decode cc pc = .ok (.invokestatic idx, 3)) (hroom : cells + mc ≤ R.cells ∧ slots + ms ≤ R.slots) {st0 : List Value} (hst : st0 = As.reverse ++ rest)
    (kk : ∀ (H1 : Heap) (locs1 : List Loc), H.size ≤ H1.size → gRep B0 D v G1 s H1 → va_S (gA B0) s.heap H1 locs1 → W p l e R s m args below meth c H1 locs1 (cells + mc) (slots + ms) Q (F0 m (pc + 3) ls (ov.toList ++ rest))) : W p l e R s m args below meth c H locs cells slots Q (F0 m pc ls st0) := by
  subst hst
  obtain ⟨k1, k2, k3, k5, k6⟩ := K
  rcases k2 with k2 | ⟨host, k2⟩
  · exact g_after hR hS (va_runS (As := As) (rest := rest) (index := idx) (Ts := gW) (own := own) ⟨hx, hb, hml, hown, hts⟩ hM ⟨callB_of n hts (gGood (w0 := .returned) k1) rfl hrm.1 hrm.2.1 (hts _ k5) (hts _ k2) k6 hrm.2.2, hts _ k3⟩ ⟨gPre.blind, fun U hU hW => ⟨rfl, by rw [hU]; exact hR.warm hW⟩⟩ rfl hn hsize rfl (lv_room hcat) hdg hroom) kk
  · exact g_after hR hS (va_runSN (As := As) (rest := rest) (index := idx) (host := host) (Ts := gW) (own := own) ⟨hx, hb, hml, hown, hts⟩ hM ⟨va_cnB n hts (gGood (w0 := .returned) k1) rfl hrm.1 hrm.2.1 (hR.2.2.1.1 _ k2) (hts _ k5) k6 hrm.2.2, hts _ k3, trivial⟩ ⟨gPre.blind, fun U hU hW => ⟨rfl, by rw [hU]; exact hR.warm hW⟩⟩ rfl hn hsize rfl (lv_room hcat) hdg hroom) kk
theorem g_callI {y : MethodName} {bytes : ByteArray} {maxL nL mc ms n idx b : Nat} {rm : Room} {As : List Value} {ov : Option Value} {G1 : gH} (hx : p.tables.exec = Jvm.exec) (hb : c.code = cc) (hml : c.maxLocals = nL) (hown : s.vm.findClass own = some m.cls) (hts : ∀ w ∈ gW, w.before args s = true) (hR : gRep B0 D v G s H) (hS : va_S (gA B0) s.heap H locs)
    (K : gKi own idx y bytes maxL n) (hM : Met l y (.code y bytes maxL none :: gW) rm (gPre B0 D v (.ref b :: As) G) (gQ B0 D v ov G1) mc ms (gA B0)) (hrm : rm.cells = mc ∧ rm.slots = ms ∧ rm.frames + 1 ≤ R.frames ∧ 8 + (maxL + 11) + rm.locals ≤ R.locals)
    (hsize : ls.size = nL) (hn : As.length = n) (hcat : (rest.map fun v => v.category).sum ≤ 8) (hdg : decode cc pc = .ok (.invokespecial idx, 3)) (hroom : cells + mc ≤ R.cells ∧ slots + ms ≤ R.slots) {st0 : List Value} (hst : st0 = As.reverse ++ .ref b :: rest)
    (kk : ∀ (H1 : Heap) (locs1 : List Loc), H.size ≤ H1.size → gRep B0 D v G1 s H1 → va_S (gA B0) s.heap H1 locs1 → W p l e R s m args below meth c H1 locs1 (cells + mc) (slots + ms) Q (F0 m (pc + 3) ls (ov.toList ++ rest))) : W p l e R s m args below meth c H locs cells slots Q (F0 m pc ls st0) := by
  subst hst
  obtain ⟨k1, k2, k3, k5, k7, k6⟩ := K
  rcases k2 with k2 | ⟨host, k2⟩
  · exact g_after hR hS (va_runI (As := As) (rest := rest) (index := idx) (Ts := gW) (own := own) ⟨hx, hb, hml, hown, hts⟩ hM (cwI n hts (gGood (w0 := .returned) k1) rfl hrm.1 hrm.2.1 (hts _ k5) (hts _ k2) (hts _ k3) k7 k6 hrm.2.2) ⟨gPre.blind, fun U hU hW => ⟨rfl, by rw [hU]; exact hR.warm hW⟩⟩ rfl hn hsize rfl (lv_room hcat) hdg hroom) kk
  · exact g_after hR hS (va_runIN (As := As) (rest := rest) (index := idx) (host := host) (Ts := gW) (own := own) ⟨hx, hb, hml, hown, hts⟩ hM ⟨va_cnB n hts (gGood (w0 := .returned) k1) rfl hrm.1 hrm.2.1 (hR.2.2.1.1 _ k2) (hts _ k5) k6 hrm.2.2, k7, hts _ k3⟩ ⟨gPre.blind, fun U hU hW => ⟨rfl, by rw [hU]; exact hR.warm hW⟩⟩ rfl hn hsize rfl (lv_room hcat) hdg hroom) kk
end GCTRL
