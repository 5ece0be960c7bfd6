/-! PURE: what is written of an ENTRY: HEADs and DATA one behind the other -/
def sgN : List ((Nat → Int32) × Nat × (Nat → Int32)) → Nat → Nat
  | [], u => u
  | s :: t, u => sgN t (fl (u + 512 + s.2.1))
def sgF : List ((Nat → Int32) × Nat × (Nat → Int32)) → Nat → (Nat → Int32) → Nat → Int32
  | [], _, g => g
  | s :: t, u, g => sgF t (fl (u + 512 + s.2.1)) (ENT g u s.1 s.2.1 s.2.2)
theorem sgN_a (s t : List ((Nat → Int32) × Nat × (Nat → Int32))) : ∀ u, sgN (s ++ t) u = sgN t (sgN s u) := by
  induction s with
  | nil => intro u; rfl
  | cons r s ih => intro u; exact ih _
theorem sgF_a (s t : List ((Nat → Int32) × Nat × (Nat → Int32))) : ∀ u g, sgF (s ++ t) u g = sgF t (sgN s u) (sgF s u g) := by
  induction s with
  | nil => intro u g; rfl
  | cons r s ih => intro u g; exact ih _ _
theorem sgN_le (t : List ((Nat → Int32) × Nat × (Nat → Int32))) : ∀ u, u ≤ sgN t u := by
  induction t with
  | nil => intro u; exact Nat.le_refl _
  | cons r s ih =>
    intro u
    have h1 := fl_le (u + 512 + r.2.1)
    have h2 := ih (fl (u + 512 + r.2.1))
    show u ≤ sgN s (fl (u + 512 + r.2.1))
    omega
theorem sgN_z (t : List ((Nat → Int32) × Nat × (Nat → Int32))) : ∀ u, u % 512 = 0 → sgN t u % 512 = 0 := by
  induction t with
  | nil => intro u h; exact h
  | cons r s ih => intro u _; exact ih _ (fl_le _).2.2
/-- from another place on -/
theorem sgN_s (t : List ((Nat → Int32) × Nat × (Nat → Int32))) : ∀ B u, B % 512 = 0 → sgN t (B + u) = B + sgN t u := by
  induction t with
  | nil => intro B u _; rfl
  | cons r s ih =>
    intro B u hB
    show sgN s (fl (B + u + 512 + r.2.1)) = B + sgN s (fl (u + 512 + r.2.1))
    rw [show B + u + 512 + r.2.1 = B + (u + 512 + r.2.1) by omega, fl_a hB]
    exact ih B _ hB
theorem sgF_c : ∀ (t : List ((Nat → Int32) × Nat × (Nat → Int32))) (u : Nat) (g g' : Nat → Int32), (∀ j, j < u → g j = g' j) → ∀ j, j < sgN t u → sgF t u g j = sgF t u g' j := by
  intro t
  induction t with
  | nil => intro u g g' e j hj; exact e j hj
  | cons r t ih =>
    intro u g g' e j hj
    exact ih _ _ _ (ENT_c e (fun _ _ => rfl) (fun _ _ => rfl)) j hj
def sh (B : Nat) (o g : Nat → Int32) (j : Nat) : Int32 := if j < B then o j else g (j - B)
theorem sh_fa {B p n : Nat} {o g k : Nat → Int32} : fa (sh B o g) (B + p) n k = sh B o (fa g p n k) := by
  funext j
  unfold sh
  by_cases q : j < B
  · rw [if_pos q, fa_n (by omega), if_pos q]
  · rw [if_neg q]
    by_cases q2 : p ≤ j - B ∧ j - B < p + n
    · rw [fa_i (by omega), fa_i q2, show j - (B + p) = j - B - p by omega]
    · rw [fa_n (by omega), fa_n q2, if_neg q]
theorem sh_ENT {B u sz : Nat} {o g hd D : Nat → Int32} (hB : B % 512 = 0) : ENT (sh B o g) (B + u) hd sz D = sh B o (ENT g u hd sz D) := by
  unfold ENT
  rw [show B + u + 512 + sz = B + (u + 512 + sz) by omega, fl_a hB, sh_fa, show B + u + 512 = B + (u + 512) by omega, sh_fa, show B + fl (u + 512 + sz) - (B + (u + 512 + sz)) = fl (u + 512 + sz) - (u + 512 + sz) by omega, sh_fa]
theorem sh_sgF : ∀ (t : List ((Nat → Int32) × Nat × (Nat → Int32))) (B u : Nat) (o g : Nat → Int32), B % 512 = 0 → sgF t (B + u) (sh B o g) = sh B o (sgF t u g) := by
  intro t
  induction t with
  | nil => intro B u o g _; rfl
  | cons r t ih =>
    intro B u o g hB
    show sgF t (fl (B + u + 512 + r.2.1)) (ENT (sh B o g) (B + u) r.1 r.2.1 r.2.2) = sh B o (sgF t (fl (u + 512 + r.2.1)) (ENT g u r.1 r.2.1 r.2.2))
    rw [show B + u + 512 + r.2.1 = B + (u + 512 + r.2.1) by omega, fl_a hB, sh_ENT hB]
    exact ih B _ o _ hB
/-- a HEAD with its SUM -/
def sealed (f : Nat → Int32) : Nat → Int32 := sealF (smI f 512).toInt.toNat f
theorem sealed_T {f : Nat → Int32} (h : By f) : ∃ T, smI f 512 = nI T ∧ T < 2 ^ 31 ∧ sealed f = sealF T f := by
  obtain ⟨T, h1, h2⟩ := smI_n (fun j _ => h j) 512 (Nat.le_refl _)
  refine ⟨T, h2, by omega, ?_⟩
  unfold sealed
  rw [h2, nI_toInt (by omega)]
  rfl
/-- the pieces of an ENTRY in a FAMILY -/
def sgX (S : List (List Int32 × Nat × (Nat → Int32))) : List ((Nat → Int32) × Nat × (Nat → Int32)) :=
  match S with
  | [] => []
  | r :: t => [(sealed (ahM 2 120 (rwN (r :: t) 0) PH), rwN (r :: t) 0, rwR (r :: t) 0 (fun _ => 0))]
def sgL (kd : Int32) (n : Nat) (nb : Nat → Int32) : List ((Nat → Int32) × Nat × (Nat → Int32)) := if n ≤ 100 then [] else [(sealed (ahM 3 kd (n + 1) LL), n + 1, lD n nb)]
def segs (x : Nat) (kd : Int32) (k sz : Nat) (sd : Int32) (U Gd Tm : Int64) (ns : Nat) (sp : Int32) (nb : Nat → Int32) (ls : Nat) (lb : Nat → Int32) (S : List (List Int32 × Nat × (Nat → Int32))) : List ((Nat → Int32) × Nat × (Nat → Int32)) :=
  (if x = 2 then sgX S else []) ++ ((if x = 3 then sgL 75 ls lb ++ sgL 76 ns nb else []) ++ [(sealed (hdM x kd k sz U Gd Tm ns (spN x ns sp) nb ls lb), sz, dB sd)])
theorem sgX_n {S : List (List Int32 × Nat × (Nat → Int32))} (h : S ≠ []) : sgX S = [(sealed (ahM 2 120 (rwN S 0) PH), rwN S 0, rwR S 0 (fun _ => 0))] := by
  match S, h with
  | [], h => exact absurd rfl h
  | r :: t, _ => rfl
theorem sgL_s {kd : Int32} {n : Nat} {nb : Nat → Int32} (h : n ≤ 100) : sgL kd n nb = [] := if_pos h
theorem sgL_l {kd : Int32} {n : Nat} {nb : Nat → Int32} (h : ¬ n ≤ 100) : sgL kd n nb = [(sealed (ahM 3 kd (n + 1) LL), n + 1, lD n nb)] := if_neg h
theorem rwN_le : ∀ (t : List (List Int32 × Nat × (Nat → Int32))) (N : Nat), N ≤ rwN t N := by
  intro t
  induction t with
  | nil => intro N; exact Nat.le_refl _
  | cons r t ih =>
    intro N
    have := ih (N + rl (r.1.length + r.2.1 + 3))
    show N ≤ rwN t (N + rl (r.1.length + r.2.1 + 3))
    omega
/-- the ROWS of an ENTRY have at most 1000 bytes, and 0 only where there are none -/
theorem SR_le {ns ls na wu wg wt t : Nat} {nb lb : Nat → Int32} {sp : Int32} {U Gd T : Int64} (hs : ns ≤ 400) (hl : ls ≤ 400) (hwu : wu ≤ 18) (hwg : wg ≤ 18) (hL : tL (tmN T.toInt) wt (tmR T.toInt na) t ≤ 29) : rwN (SR ns nb sp ls lb U Gd T na wu wg wt t) 0 ≤ 1000 := by
  unfold SR
  rw [rwN_a, rwN_a, rwN_a, rwN_a]
  have h1 : ∀ N, rwN (sr1 ns nb sp) N ≤ N + 411 := by
    intro N
    unfold sr1
    split
    · show N ≤ _; omega
    · have h : rwN [(PA, ns, nb)] N ≤ N + (4 + ns + 7) := (rwN_1 (r := (PA, ns, nb)) (N := N) (by show 4 + ns + 3 < 420; omega)).2
      omega
  have h2 : ∀ N, rwN (sr2 ls lb) N ≤ N + 415 := by
    intro N
    unfold sr2
    split
    · show N ≤ _; omega
    · have h : rwN [(LK, ls, lb)] N ≤ N + (8 + ls + 7) := (rwN_1 (r := (LK, ls, lb)) (N := N) (by show 8 + ls + 3 < 420; omega)).2
      omega
  have h3 : ∀ N, rwN (sr3 UI U wu) N ≤ N + 28 := by
    intro N
    unfold sr3
    split
    · show N ≤ _; omega
    · have h : rwN [(UI, wu, dd U.toInt.toNat wu)] N ≤ N + (3 + wu + 7) := (rwN_1 (r := (UI, wu, dd U.toInt.toNat wu)) (N := N) (by show 3 + wu + 3 < 420; omega)).2
      omega
  have h4 : ∀ N, rwN (sr3 GI Gd wg) N ≤ N + 28 := by
    intro N
    unfold sr3
    split
    · show N ≤ _; omega
    · have h : rwN [(GI, wg, dd Gd.toInt.toNat wg)] N ≤ N + (3 + wg + 7) := (rwN_1 (r := (GI, wg, dd Gd.toInt.toNat wg)) (N := N) (by show 3 + wg + 3 < 420; omega)).2
      omega
  have h5 : ∀ N, rwN (sr5 T na wt t) N ≤ N + 41 := by
    intro N
    unfold sr5
    split
    · show N ≤ _; omega
    · have h := (rwN_1 (r := (MT, tL (tmN T.toInt) wt (tmR T.toInt na) t, tF (fun _ => 0) (tmN T.toInt) (tmW T.toInt na) wt (tmR T.toInt na) t)) (N := N) (by show 5 + tL (tmN T.toInt) wt (tmR T.toInt na) t + 3 < 420; omega)).2
      have h' : rwN [(MT, tL (tmN T.toInt) wt (tmR T.toInt na) t, tF (fun _ => 0) (tmN T.toInt) (tmW T.toInt na) wt (tmR T.toInt na) t)] N ≤ N + (5 + tL (tmN T.toInt) wt (tmR T.toInt na) t + 7) := h
      omega
  have a1 := h1 0
  have a2 := h2 (rwN (sr1 ns nb sp) 0)
  have a3 := h3 (rwN (sr2 ls lb) (rwN (sr1 ns nb sp) 0))
  have a4 := h4 (rwN (sr3 UI U wu) (rwN (sr2 ls lb) (rwN (sr1 ns nb sp) 0)))
  have a5 := h5 (rwN (sr3 GI Gd wg) (rwN (sr3 UI U wu) (rwN (sr2 ls lb) (rwN (sr1 ns nb sp) 0))))
  omega
theorem rwN_pos {r : List Int32 × Nat × (Nat → Int32)} {t : List (List Int32 × Nat × (Nat → Int32))} (h : r.1.length + r.2.1 + 3 < 420) : 1 ≤ rwN (r :: t) 0 := by
  have h1 := rl_ok _ h
  have h2 := rwN_le t (0 + rl (r.1.length + r.2.1 + 3))
  show 1 ≤ rwN t (0 + rl (r.1.length + r.2.1 + 3))
  omega
theorem SR_key {ns ls na wu wg wt t : Nat} {nb lb : Nat → Int32} {sp : Int32} {U Gd T : Int64} (hs : ns ≤ 400) (hl : ls ≤ 400) (hwu : wu ≤ 18) (hwg : wg ≤ 18) (hL : tL (tmN T.toInt) wt (tmR T.toInt na) t ≤ 29) : ∀ r ∈ SR ns nb sp ls lb U Gd T na wu wg wt t, r.1.length + r.2.1 + 3 < 420 := by
  intro r hr
  unfold SR sr1 sr2 sr3 sr5 at hr
  simp only [List.mem_append] at hr
  rcases hr with hr | hr | hr | hr | hr
  · split at hr
    · cases hr
    · rw [List.mem_singleton] at hr; subst hr; show 4 + ns + 3 < 420; omega
  · split at hr
    · cases hr
    · rw [List.mem_singleton] at hr; subst hr; show 8 + ls + 3 < 420; omega
  · split at hr
    · cases hr
    · rw [List.mem_singleton] at hr; subst hr; show 3 + wu + 3 < 420; omega
  · split at hr
    · cases hr
    · rw [List.mem_singleton] at hr; subst hr; show 3 + wg + 3 < 420; omega
  · split at hr
    · cases hr
    · rw [List.mem_singleton] at hr; subst hr; show 5 + tL (tmN T.toInt) wt (tmR T.toInt na) t + 3 < 420; omega
theorem SR_pos {ns ls na wu wg wt t : Nat} {nb lb : Nat → Int32} {sp : Int32} {U Gd T : Int64} (hs : ns ≤ 400) (hl : ls ≤ 400) (hwu : wu ≤ 18) (hwg : wg ≤ 18) (hL : tL (tmN T.toInt) wt (tmR T.toInt na) t ≤ 29) : SR ns nb sp ls lb U Gd T na wu wg wt t = [] ∨ 1 ≤ rwN (SR ns nb sp ls lb U Gd T na wu wg wt t) 0 := by
  have key := SR_key (nb := nb) (lb := lb) (sp := sp) (U := U) (Gd := Gd) hs hl hwu hwg hL
  generalize SR ns nb sp ls lb U Gd T na wu wg wt t = S at key
  match S, key with
  | [], _ => exact Or.inl rfl
  | r :: s, key => exact Or.inr (rwN_pos (key r List.mem_cons_self))
/-! PURE: an ENTRY is written, on both sides -/
theorem spN_ok {x ns : Nat} {nb : Nat → Int32} {sp : Int32} (h : SpR nb ns sp) : spN x ns sp ≤ 155 ∧ (spN x ns sp = 0 ∨ ns - (spN x ns sp + 1) ≤ 100) ∧ spN x ns sp ≤ ns := by
  unfold spN
  split
  · rename_i c
    rcases h with ⟨h1, -⟩ | ⟨j, h1, h2, -⟩
    · exact absurd (by rw [h1]; decide) c.2.2
    · obtain ⟨k1, k2, k3, k4, k5⟩ := h2
      rw [h1, nI_toInt (by omega)]
      show ((j : Int).toNat) ≤ 155 ∧ ((j : Int).toNat = 0 ∨ ns - ((j : Int).toNat + 1) ≤ 100) ∧ (j : Int).toNat ≤ ns
      rw [Int.toNat_natCast]
      omega
  · omega
/-- the data of an ENTRY, as far as they must be so -/
def EnD (ns ls k sz na wu wg wt t : Nat) (nb lb : Nat → Int32) (sp kd : Int32) (U Gd T : Int64) : Prop :=
  (1 ≤ ns ∧ ns ≤ 400 ∧ ls ≤ 400 ∧ k < 2 ^ 63 ∧ sz ≤ 4000 ∧ kd &&& 255 = kd ∧ SpR nb ns sp) ∧
  ((0 ≤ U.toInt ∧ U.toInt ≤ 36028797018963968) ∧ (0 ≤ Gd.toInt ∧ Gd.toInt ≤ 36028797018963968) ∧ (-1099511627776 ≤ T.toInt ∧ T.toInt ≤ 1125899906842624) ∧ na ≤ 999999999) ∧
  (DW U.toInt.toNat wu ∧ DW Gd.toInt.toNat wg ∧ DW (tmW T.toInt na) wt ∧ FT (tmR T.toInt na) t) ∧
  (∀ j, j < ns → nb j &&& 255 = nb j) ∧ ∀ j, j < ls → lb j &&& 255 = lb j
theorem EnD.tl {ns ls k sz na wu wg wt t : Nat} {nb lb : Nat → Int32} {sp kd : Int32} {U Gd T : Int64} (h : EnD ns ls k sz na wu wg wt t nb lb sp kd U Gd T) : wu ≤ 18 ∧ wg ≤ 18 ∧ tL (tmN T.toInt) wt (tmR T.toInt na) t ≤ 29 := by
  obtain ⟨-, -, ⟨h1, h2, h3, h4⟩, -⟩ := h
  have w1 := h1.2.1
  have w2 := h2.2.1
  have w3 := h3.2.1
  have w4 := h4.1
  refine ⟨w1, w2, ?_⟩
  unfold tL tmN frL
  repeat' split
  all_goals omega
theorem EnD.hd {x ns ls k sz na wu wg wt t : Nat} {nb lb : Nat → Int32} {sp kd : Int32} {U Gd T : Int64} (h : EnD ns ls k sz na wu wg wt t nb lb sp kd U Gd T) : By (hdM x kd k sz U Gd T ns (spN x ns sp) nb ls lb) := hdM_b h.1.2.2.2.2.2.1 h.2.2.2.1 h.2.2.2.2 (spN_ok h.1.2.2.2.2.2.2).2.2
theorem RowB.ag {G G' : gH} {a cap u : Nat} {g : Nat → Int32} (h : RowB G a cap u g) (h1 : G'.2.1 a = G.2.1 a) (h2 : G'.1 (a + 1) = G.1 (a + 1)) : RowB G' a cap u g := by
  obtain ⟨f, ⟨k1, k2, k3⟩, k4⟩ := h
  exact ⟨f, ⟨by rw [h1]; exact k1, by rw [h2]; exact k2, k3⟩, k4⟩
/-- only the Rows archive, rows and value may have changed -/
def F3 (b : Nat) (G G' : gH) : Prop := G'.2.2 = G.2.2 ∧ (∀ q, q ≠ b + 4 → q ≠ b + 8 → q ≠ b + 10 → G'.1 q = G.1 q) ∧ ∀ q, q ≠ b + 3 → q ≠ b + 7 → q ≠ b + 9 → G'.2.1 q = G.2.1 q
/-- the class while it writes: u bytes g in the archive -/
def CW (b : Nat) (G0 : gH) (u : Nat) (g : Nat → Int32) (G : gH) : Prop := F3 b G0 G ∧ RowB G (b + 3) 32768 u g ∧ (∃ u7 g7, RowB G (b + 7) 1024 u7 g7) ∧ ∃ u9 g9, RowB G (b + 9) 40 u9 g9
section AP
variable {v : Nat → Nat} {G0 G G' : gH} {b i ns ls u : Nat} {nb lb g : Nat → Int32} {pn : Nat → Int64} {kd szI sd : Int32}
theorem F3.rf : F3 b G G := ⟨rfl, fun _ _ _ _ => rfl, fun _ _ _ _ => rfl⟩
theorem F3.tr {G1 : gH} (h : F3 b G G1) (k : F3 b G1 G') : F3 b G G' := ⟨k.1.trans h.1, fun q q1 q2 q3 => (k.2.1 q q1 q2 q3).trans (h.2.1 q q1 q2 q3), fun q q1 q2 q3 => (k.2.2 q q1 q2 q3).trans (h.2.2 q q1 q2 q3)⟩
theorem Fr2.f3 (h : Fr2 G G' (b + 3)) : F3 b G G' := ⟨h.1, fun q q1 _ _ => h.2.1 q q1, fun q q1 _ _ => h.2.2 q q1⟩
theorem F79.f3 (h : F79 b G G') : F3 b G G' := ⟨h.1, fun q _ q2 q3 => h.2.1 q q2 q3, fun q _ q2 q3 => h.2.2 q q2 q3⟩
theorem EnvC.f3 (h : EnvC v b i ns ls nb lb pn kd szI sd G) (k : F3 b G G') : EnvC v b i ns ls nb lb pn kd szI sd G' := by
  obtain ⟨h1, h2, h3, h4, h5, h6, h7⟩ := h
  have lo : ∀ q, q < b → G'.1 q = G.1 q ∧ G'.2.1 q = G.2.1 q := fun q hq => ⟨k.2.1 q (by omega) (by omega) (by omega), k.2.2 q (by omega) (by omega) (by omega)⟩
  refine ⟨by rw [k.2.2 _ (by omega) (by omega) (by omega)]; exact h1, by rw [k.2.2 _ (by omega) (by omega) (by omega)]; exact h2, by rw [k.2.1 _ (by omega) (by omega) (by omega)]; exact h3, h4.ag (k.2.2 _ (by omega) (by omega) (by omega)) (k.2.1 _ (by omega) (by omega) (by omega)), h5.ag (k.2.2 _ (by omega) (by omega) (by omega)) (k.2.1 _ (by omega) (by omega) (by omega)), ⟨⟨h6.1.1, by rw [(lo _ h6.1.1).1]; exact h6.1.2⟩, h6.2.1, by rw [(lo _ h6.2.1).1]; exact h6.2.2⟩, h7.ag lo⟩
theorem CW.st {u' : Nat} {g' : Nat → Int32} (c : CW b G0 u g G) (f : Fr2 G G' (b + 3)) (k : RowB G' (b + 3) 32768 u' g') : CW b G0 u' g' G' := by
  obtain ⟨c1, -, ⟨u7, g7, c7⟩, u9, g9, c9⟩ := c
  exact ⟨c1.tr f.f3, k, ⟨u7, g7, c7.fr f (by omega)⟩, u9, g9, c9.fr f (by omega)⟩
theorem CW.c {g' : Nat → Int32} (c : CW b G0 u g G) (e : ∀ j, j < u → g j = g' j) : CW b G0 u g' G := ⟨c.1, c.2.1.c e, c.2.2⟩
/-- a long NAME or LINK ahead -/
theorem wa_long {r n : Nat} {nb : Nat → Int32} {kd : Int32} (c : CW b G0 u g G) (o : G.2.1 (b + 6) = some (2, [.ref (b + 3), .ref (b + 7), .ref (b + 9)])) (hr : RowB G r 400 n nb) (hrb : b + 266 ≤ r) (mg : Mgs v b G) (hS : StrX b G (v 12) LL) (hkd : kd &&& 255 = kd) (hu : sgN (sgL kd n nb) u ≤ 32768) : ∃ G', fX2_appendLong v G (b + 6) kd r = some G' ∧ CW b G0 (sgN (sgL kd n nb) u) (sgF (sgL kd n nb) u g) G' := by
  have hn := hr.le
  by_cases z : n ≤ 100
  · rw [sgL_s z]
    refine ⟨G, ?_, c⟩
    unfold fX2_appendLong
    rw [gOb_at o, Option.bind_some, rb_count hr, Option.bind_some, if_pos ((j100 (by omega)).mpr z)]
  · rw [sgL_l z] at hu ⊢
    have hu' : fl (u + 512 + (n + 1)) ≤ 32768 := hu
    have hf := fl_le (u + 512 + (n + 1))
    obtain ⟨T, t1, t2, t3⟩ := sealed_T (ahM_b (x := 3) (sz := n + 1) (l := LL) hkd (fun j hj => hS.b hj))
    obtain ⟨G', e, f, k⟩ := k_long (v := v) (T := T) (lim := b) (by omega) (by omega) o c.2.1 hr (mg.up (by omega)) hS (by omega) hkd (by omega) hu' (by omega) ((smI_c (ah_e (by decide)) 512 (Nat.le_refl _)).trans t1) t2
    refine ⟨G', e, c.st f (RowB.c k (fun j hj => ?_))⟩
    show _ = ENT g u (sealed (ahM 3 kd (n + 1) LL)) (n + 1) (lD n nb) j
    rw [t3]
    exact ENT_c (fun _ _ => rfl) (seal_e (ah_e (by decide))) (fun _ _ => rfl) j hj
/-- the ROWS ahead -/
theorem wa_make {k sz na wu wg wt t : Nat} {sp : Int32} {U Gd T : Int64} (he : EnvC v b i ns ls nb lb pn kd szI sd G0) (c : CW b G0 u g G) (hd : EnD ns ls k sz na wu wg wt t nb lb sp kd U Gd T) (p1 : pn 1 = U) (p2 : pn 2 = Gd) (p3 : pn 3 = T) (p4 : pn 4 = lN na) : ∃ G', fX2_makeRows v G (b + 6) (b + (266 + 6 * i)) = some G' ∧ CW b G0 u g G' ∧ RowB G' (b + 7) 1024 (rwN (SR ns nb sp ls lb U Gd T na wu wg wt t) 0) (rwR (SR ns nb sp ls lb U Gd T na wu wg wt t) 0 (fun _ => 0)) := by
  obtain ⟨w1, w2, w3⟩ := hd.tl
  obtain ⟨⟨d1, d2, d3, -, -, -, d7⟩, ⟨e1, e2, e3, e4⟩, ⟨f1, f2, f3, f4⟩, -⟩ := hd
  obtain ⟨c1, c2, ⟨u7, g7, c7⟩, c9⟩ := c
  obtain ⟨G1, x1, ⟨-, s2, s3, s4⟩⟩ := k_makeRows (v := v) (he.f3 c1) c7 c9 d7 d1 p1 p2 p3 p4 e1 e2 e3 e4 f1 f2 f3 f4
  refine ⟨G1, x1, ⟨c1.tr s4.f3, c2.ag (s4.2.2 _ (by omega) (by omega)) (s4.2.1 _ (by omega) (by omega)), ⟨_, _, s2⟩, s3⟩, s2.c (rwR_c _ 0 _ _ (SR_key d2 d3 w1 w2 w3) (fun j hj => absurd hj (Nat.not_lt_zero _)))⟩
theorem wa_rows {k sz na wu wg wt t : Nat} {sp : Int32} {U Gd T : Int64} (he : EnvC v b i ns ls nb lb pn kd szI sd G0) (c : CW b G0 u g G) (hd : EnD ns ls k sz na wu wg wt t nb lb sp kd U Gd T) (p1 : pn 1 = U) (p2 : pn 2 = Gd) (p3 : pn 3 = T) (p4 : pn 4 = lN na) (hu : sgN (sgX (SR ns nb sp ls lb U Gd T na wu wg wt t)) u ≤ 32768) : ∃ G', fX2_appendRows v G (b + 6) (b + (266 + 6 * i)) = some G' ∧ CW b G0 (sgN (sgX (SR ns nb sp ls lb U Gd T na wu wg wt t)) u) (sgF (sgX (SR ns nb sp ls lb U Gd T na wu wg wt t)) u g) G' := by
  obtain ⟨w1, w2, w3⟩ := hd.tl
  obtain ⟨G1, x1, k1, r1⟩ := wa_make he c hd p1 p2 p3 p4
  have hN := SR_le (nb := nb) (lb := lb) (sp := sp) (U := U) (Gd := Gd) hd.1.2.1 hd.1.2.2.1 w1 w2 w3
  have hP := SR_pos (nb := nb) (lb := lb) (sp := sp) (U := U) (Gd := Gd) hd.1.2.1 hd.1.2.2.1 w1 w2 w3
  generalize SR ns nb sp ls lb U Gd T na wu wg wt t = S at *
  have en := he.f3 c.1
  have en1 := he.f3 k1.1
  obtain ⟨N, hN0⟩ : ∃ N, N = rwN S 0 := ⟨_, rfl⟩
  rw [← hN0] at r1 hN
  unfold fX2_appendRows
  rw [gOb_at en.1, Option.bind_some, x1, Option.bind_some, gR_at en1.1 (k := 1) (x := b + 7) rfl, Option.bind_some, rb_count r1, Option.bind_some]
  rcases hP with hP | hP
  · have z : N = 0 := by rw [hN0, hP]; rfl
    rw [if_pos (show nI N ≤ 0 by rw [z]; decide)]
    refine ⟨G1, rfl, ?_⟩
    rw [hP]
    exact k1
  · have hS0 : S ≠ [] := fun z => by rw [z] at hP; exact absurd hP (by decide)
    rw [if_neg (nI_nle (by omega) (by omega))]
    rw [sgX_n hS0, ← hN0] at hu ⊢
    have hu' : fl (u + 512 + N) ≤ 32768 := hu
    have hf := fl_le (u + 512 + N)
    have hPH := en1.2.2.2.2.2.2.1
    obtain ⟨T, t1, t2, t3⟩ := sealed_T (ahM_b (x := 2) (kd := 120) (sz := N) (l := PH) (by decide) (fun j hj => hPH.b hj))
    obtain ⟨G2, x2, f2, b2⟩ := k_ahead (v := v) (x := 2) (T := T) (kd := 120) (sz := N) (by omega) en1.1 k1.2.1 (en1.2.2.2.2.2.1.up (by omega)) hPH (show b ≤ b + 3 by omega) (by decide) (by decide) (by omega) (by decide) (by omega) (by omega) ((smI_c (ah_e (by decide)) 512 (Nat.le_refl _)).trans t1) t2
    have k2 := k1.st f2 b2
    have en2 := he.f3 k2.1
    have r2 := r1.fr f2 (by omega)
    obtain ⟨G3, x3, f3, b3⟩ := rb_addPart (v := v) (j := 0) (e := N) (by omega) b2 r2 (by omega) (Nat.le_refl _) (by omega)
    have k3 := k2.st f3 b3
    have en3 := he.f3 k3.1
    rw [Nat.sub_zero, show (fun k => rwR S 0 (fun _ => 0) (0 + k)) = rwR S 0 (fun _ => 0) from funext (fun k => by rw [Nat.zero_add])] at b3
    obtain ⟨G4, x4, f4, b4⟩ := k_fillBlock (v := v) (by omega) en3.1 b3 (by omega) (by omega)
    refine ⟨G4, ?_, k3.st f4 (RowB.c b4 (fun j hj => ?_))⟩
    · rw [Option.bind_some, rb_count r1, Option.bind_some, show (2 : Int32) = nI 2 from rfl, x2, Option.bind_some, gR_at en2.1 (k := 0) (x := b + 3) rfl, Option.bind_some, gR_at en2.1 (k := 1) (x := b + 7) rfl, Option.bind_some, Option.bind_some, rb_count r2, Option.bind_some, show (0 : Int32) = nI 0 from rfl, x3, Option.bind_some, x4, Option.bind_some]
    · show ENT g u (sealF T (ahC 2 120 N PH)) N (rwR S 0 (fun _ => 0)) j = ENT g u (sealed (ahM 2 120 N PH)) N (rwR S 0 (fun _ => 0)) j
      rw [t3]
      exact ENT_c (fun _ _ => rfl) (seal_e (ah_e (by decide))) (fun _ _ => rfl) j hj
/-- the ENTRY itself -/
theorem wa_ent {x k sz na wu wg wt t : Nat} {sp : Int32} {U Gd T : Int64} (he : EnvC v b i ns ls nb lb pn kd (nI sz) sd G0) (c : CW b G0 u g G) (hd : EnD ns ls k sz na wu wg wt t nb lb sp kd U Gd T) (hx : x < 4) (p0 : pn 0 = lN k) (p1 : pn 1 = U) (p2 : pn 2 = Gd) (p3 : pn 3 = T) (hu : fl (u + 512 + sz) ≤ 32768) : ∃ G', jX2_append_35 v G (b + 6) (b + (266 + 6 * i)) (nI x) = some G' ∧ CW b G0 (fl (u + 512 + sz)) (ENT g u (sealed (hdM x kd k sz U Gd T ns (spN x ns sp) nb ls lb)) sz (dB sd)) G' := by
  have hf := fl_le (u + 512 + sz)
  obtain ⟨e1, e2, e3, e4, e5, e6, e7⟩ := he.f3 c.1
  obtain ⟨T1, t1, t2, t3⟩ := sealed_T (hd.hd (x := x))
  have sn := spN_ok (x := x) hd.1.2.2.2.2.2.2
  obtain ⟨G', a1, a2, a3⟩ := k_app35 (v := v) (x := x) (T := T1) (na := 0) (by omega) (by omega) (by omega) (by omega) (by omega) e1 e2 e3 p0 p1 p2 p3 c.2.1 e4 e5 (e6.up (by omega)) hx hd.1.2.2.2.1 hd.1.2.2.2.2.1 hd.1.2.2.2.2.2.1 hd.1.2.2.2.2.2.2 hu (by omega) ((smI_c (hd_e sn.1 sn.2.1) 512 (Nat.le_refl _)).trans t1) t2
  refine ⟨G', a1, c.st a2 (RowB.c a3 (fun j hj => ?_))⟩
  rw [t3]
  exact ENT_c (fun _ _ => rfl) (seal_e (hd_e sn.1 sn.2.1)) (fun _ _ => rfl) j hj
/-- all of an ENTRY -/
theorem wa_append {x k sz na wu wg wt t : Nat} {sp : Int32} {U Gd T : Int64} (he : EnvC v b i ns ls nb lb pn kd (nI sz) sd G0) (c : CW b G0 u g G) (hd : EnD ns ls k sz na wu wg wt t nb lb sp kd U Gd T) (hx : x < 4) (p0 : pn 0 = lN k) (p1 : pn 1 = U) (p2 : pn 2 = Gd) (p3 : pn 3 = T) (p4 : pn 4 = lN na) (hu : sgN (segs x kd k sz sd U Gd T ns sp nb ls lb (SR ns nb sp ls lb U Gd T na wu wg wt t)) u ≤ 32768) : ∃ G', fX2_append v G (b + 6) (b + (266 + 6 * i)) (nI x) = some G' ∧ CW b G0 (sgN (segs x kd k sz sd U Gd T ns sp nb ls lb (SR ns nb sp ls lb U Gd T na wu wg wt t)) u) (sgF (segs x kd k sz sd U Gd T ns sp nb ls lb (SR ns nb sp ls lb U Gd T na wu wg wt t)) u g) G' := by
  have en := he.f3 c.1
  unfold segs at hu ⊢
  rw [sgN_a, sgN_a] at hu ⊢
  rw [sgF_a, sgF_a]
  unfold fX2_append
  rw [gOb_at en.1, Option.bind_some]
  by_cases x2 : x = 2
  · rw [if_pos x2, if_neg (show ¬ x = 3 by omega)] at hu ⊢
    have hu2 : fl (sgN (sgX (SR ns nb sp ls lb U Gd T na wu wg wt t)) u + 512 + sz) ≤ 32768 := hu
    have hf := fl_le (sgN (sgX (SR ns nb sp ls lb U Gd T na wu wg wt t)) u + 512 + sz)
    obtain ⟨G1, e1, c1⟩ := wa_rows (v := v) he c hd p1 p2 p3 p4 (by omega)
    obtain ⟨G2, e2, c2⟩ := wa_ent (v := v) (x := x) he c1 hd hx p0 p1 p2 p3 hu2
    rw [if_pos (show nI x = 2 by rw [x2]; rfl), e1, Option.bind_some]
    unfold jX2_append_10
    rw [if_neg (show ¬ nI x = 3 by rw [x2]; decide)]
    exact ⟨G2, e2, c2⟩
  · rw [if_neg x2] at hu ⊢
    rw [if_neg (show ¬ nI x = 2 from fun z => x2 ((nI_eq (b := 2) (by omega) (by decide)).mp z))]
    unfold jX2_append_10
    by_cases x3 : x = 3
    · rw [if_pos x3] at hu ⊢
      rw [sgN_a] at hu ⊢
      rw [sgF_a]
      have hu2 : fl (sgN (sgL 76 ns nb) (sgN (sgL 75 ls lb) u) + 512 + sz) ≤ 32768 := hu
      have hf := fl_le (sgN (sgL 76 ns nb) (sgN (sgL 75 ls lb) u) + 512 + sz)
      have hl := sgN_le (sgL 76 ns nb) (sgN (sgL 75 ls lb) u)
      obtain ⟨G1, e1, c1⟩ := wa_long (v := v) (kd := 75) c en.1 en.2.2.2.2.1 (by omega) en.2.2.2.2.2.1 en.2.2.2.2.2.2.2.1 (by decide) (by omega)
      have en1 := he.f3 c1.1
      obtain ⟨G2, e2, c2⟩ := wa_long (v := v) (kd := 76) c1 en1.1 en1.2.2.2.1 (by omega) en1.2.2.2.2.2.1 en1.2.2.2.2.2.2.2.1 (by decide) (by omega)
      obtain ⟨G3, e3, c3⟩ := wa_ent (v := v) (x := x) he c2 hd hx p0 p1 p2 p3 hu2
      rw [if_pos (show nI x = 3 by rw [x3]; rfl), gR_at en.2.1 (k := 1) (x := b + (266 + 6 * i) + 3) rfl, Option.bind_some, e1, Option.bind_some, gR_at en1.2.1 (k := 0) (x := b + (266 + 6 * i) + 1) rfl, Option.bind_some, e2, Option.bind_some]
      exact ⟨G3, e3, c3⟩
    · rw [if_neg x3] at hu ⊢
      rw [if_neg (show ¬ nI x = 3 from fun z => x3 ((nI_eq (b := 3) (by omega) (by decide)).mp z))]
      exact wa_ent (v := v) (x := x) he c hd hx p0 p1 p2 p3 hu
end AP
/-! PURE: how long an ENTRY is written; an ENTRY is written by the reference -/
theorem fl_b {a n : Nat} (h : a % 512 = 0) : fl (a + 512 + n) = a + (512 + fl n) := by
  rw [fl_a (b := a + 512) (by omega)]
  omega
section LN
variable {v : Nat → Nat} {G0 G G' : gH} {b i ns ls u : Nat} {nb lb g : Nat → Int32} {pn : Nat → Int64} {kd szI sd : Int32}
theorem wa_longLen {r n : Nat} (hr : RowB G r 400 n nb) : fX2_longLength v G r = some (nI (sgN (sgL kd n nb) 0)) := by
  have hn := hr.le
  unfold fX2_longLength
  rw [rb_count hr, Option.bind_some]
  by_cases z : n ≤ 100
  · rw [sgL_s z, if_pos ((j100 (by omega)).mpr z)]
    rfl
  · rw [sgL_l z, if_neg (fun q => z ((j100 (by omega)).mp q)), Option.bind_some, nI_1, k_filled (by omega), Option.bind_some, show (512 : Int32) + nI (fl (n + 1)) = nI (512 + fl (n + 1)) from nI_add 512 _]
    show _ = some (nI (fl (0 + 512 + (n + 1))))
    rw [fl_b (by decide), Nat.zero_add]
theorem wa_lengthOf {x k sz na wu wg wt t : Nat} {sp : Int32} {U Gd T : Int64} (he : EnvC v b i ns ls nb lb pn kd (nI sz) sd G0) (c : CW b G0 u g G) (hd : EnD ns ls k sz na wu wg wt t nb lb sp kd U Gd T) (hx : x < 4) (p1 : pn 1 = U) (p2 : pn 2 = Gd) (p3 : pn 3 = T) (p4 : pn 4 = lN na) : ∃ G', fX2_lengthOf v G (b + 6) (b + (266 + 6 * i)) (nI x) = some (nI (sgN (segs x kd k sz sd U Gd T ns sp nb ls lb (SR ns nb sp ls lb U Gd T na wu wg wt t)) 0), G') ∧ CW b G0 u g G' := by
  have en := he.f3 c.1
  have hsz := hd.1.2.2.2.2.1
  unfold segs
  rw [sgN_a, sgN_a]
  unfold fX2_lengthOf
  rw [gOb_at en.1, Option.bind_some, gI_at en.2.1 (k := 4) (x := nI sz) rfl, Option.bind_some, k_filled (by omega), Option.bind_some, Option.bind_some, show (512 : Int32) + nI (fl sz) = nI (512 + fl sz) from nI_add 512 _]
  by_cases x2 : x = 2
  · rw [if_pos x2, if_neg (show ¬ x = 3 by omega), if_pos (show nI x = 2 by rw [x2]; rfl)]
    obtain ⟨w1, w2, w3⟩ := hd.tl
    obtain ⟨G1, e1, k1, r1⟩ := wa_make (v := v) he c hd p1 p2 p3 p4
    have hN := SR_le (nb := nb) (lb := lb) (sp := sp) (U := U) (Gd := Gd) hd.1.2.1 hd.1.2.2.1 w1 w2 w3
    have hP := SR_pos (nb := nb) (lb := lb) (sp := sp) (U := U) (Gd := Gd) hd.1.2.1 hd.1.2.2.1 w1 w2 w3
    generalize SR ns nb sp ls lb U Gd T na wu wg wt t = S at *
    have en1 := he.f3 k1.1
    refine ⟨G1, ?_, k1⟩
    rw [e1, Option.bind_some, gR_at en1.1 (k := 1) (x := b + 7) rfl, Option.bind_some, rb_count r1, Option.bind_some]
    unfold jX2_lengthOf_51 jX2_lengthOf_53
    rcases hP with hP | hP
    · rw [hP]
      show (if (nI 0 : Int32) ≤ 0 then _ else _) = some (nI (fl (0 + 512 + sz)), G1)
      rw [if_pos (by decide), Option.bind_some, if_neg (show ¬ nI x = 3 by rw [x2]; decide), fl_b (by decide), Nat.zero_add, show nI (512 + fl sz) + (0 : Int32) = nI (512 + fl sz + 0) from nI_add _ 0, Nat.add_zero]
    · have hS0 : S ≠ [] := fun z => by rw [z] at hP; exact absurd hP (by decide)
      rw [if_neg (nI_nle (by omega) (by omega)), Option.bind_some, rb_count r1, Option.bind_some, k_filled (by omega), Option.bind_some, Option.bind_some, if_neg (show ¬ nI x = 3 by rw [x2]; decide), sgX_n hS0]
      show _ = some (nI (fl (fl (0 + 512 + rwN S 0) + 512 + sz)), G1)
      rw [fl_b (a := fl (0 + 512 + rwN S 0)) (fl_le _).2.2, fl_b (by decide), show (512 : Int32) + nI (fl (rwN S 0)) = nI (512 + fl (rwN S 0)) from nI_add 512 _, nI_add, show 512 + fl sz + (512 + fl (rwN S 0)) = 0 + (512 + fl (rwN S 0)) + (512 + fl sz) by omega]
  · rw [if_neg x2, if_neg (show ¬ nI x = 2 from fun z => x2 ((nI_eq (b := 2) (by omega) (by decide)).mp z))]
    unfold jX2_lengthOf_53
    by_cases x3 : x = 3
    · rw [if_pos x3, if_pos (show nI x = 3 by rw [x3]; rfl), gR_at en.2.1 (k := 1) (x := b + (266 + 6 * i) + 3) rfl, Option.bind_some, wa_longLen (kd := 75) en.2.2.2.2.1, Option.bind_some, gR_at en.2.1 (k := 0) (x := b + (266 + 6 * i) + 1) rfl, Option.bind_some, wa_longLen (kd := 76) en.2.2.2.1, Option.bind_some, Option.bind_some, nI_add, nI_add]
      refine ⟨G, ?_, c⟩
      show _ = some (nI (fl (sgN (sgL 75 ls lb ++ sgL 76 ns nb) 0 + 512 + sz)), G)
      have hz := sgN_z (sgL 75 ls lb) 0 (by decide)
      have hz2 := sgN_z (sgL 75 ls lb ++ sgL 76 ns nb) 0 (by decide)
      have e2 := sgN_s (sgL 76 ns nb) (sgN (sgL 75 ls lb) 0) 0 hz
      rw [fl_b hz2, sgN_a, show sgN (sgL 76 ns nb) (sgN (sgL 75 ls lb) 0) = sgN (sgL 75 ls lb) 0 + sgN (sgL 76 ns nb) 0 from e2, show 512 + fl sz + (sgN (sgL 75 ls lb) 0 + sgN (sgL 76 ns nb) 0) = sgN (sgL 75 ls lb) 0 + sgN (sgL 76 ns nb) 0 + (512 + fl sz) by omega]
    · rw [if_neg x3, if_neg (show ¬ nI x = 3 from fun z => x3 ((nI_eq (b := 3) (by omega) (by decide)).mp z))]
      refine ⟨G, ?_, c⟩
      show _ = some (nI (fl (0 + 512 + sz)), G)
      rw [fl_b (by decide), Nat.zero_add]
end LN
section PM
variable {v : Nat → Nat} {G0 G G' : gH} {m : Nat} {I : Nat → Int32} {J : Int64} {A : Nat → Nat → Int32} {B : Nat → Nat → Int64} {d : Nat} {g h : Nat → Int32}
theorem sgN_b {x ns ls k sz na wu wg wt t : Nat} {nb lb : Nat → Int32} {sp kd sd : Int32} {U Gd T : Int64} (hd : EnD ns ls k sz na wu wg wt t nb lb sp kd U Gd T) (d : Nat) : sgN (segs x kd k sz sd U Gd T ns sp nb ls lb (SR ns nb sp ls lb U Gd T na wu wg wt t)) d ≤ d + 9000 := by
  obtain ⟨w1, w2, w3⟩ := hd.tl
  have hN := SR_le (nb := nb) (lb := lb) (sp := sp) (U := U) (Gd := Gd) hd.1.2.1 hd.1.2.2.1 w1 w2 w3
  have hsz := hd.1.2.2.2.2.1
  have hns := hd.1.2.1
  have hls := hd.1.2.2.1
  generalize SR ns nb sp ls lb U Gd T na wu wg wt t = S at *
  have hX : ∀ u, sgN (sgX S) u ≤ u + 2100 := by
    intro u
    by_cases z : S = []
    · rw [z]
      show u ≤ _
      omega
    · rw [sgX_n z]
      have := fl_le (u + 512 + rwN S 0)
      show fl (u + 512 + rwN S 0) ≤ _
      omega
  have hL : ∀ (kd : Int32) (n : Nat) (nb : Nat → Int32) u, n ≤ 400 → sgN (sgL kd n nb) u ≤ u + 1500 := by
    intro kd n nb u hn
    by_cases z : n ≤ 100
    · rw [sgL_s z]
      show u ≤ _
      omega
    · rw [sgL_l z]
      have := fl_le (u + 512 + (n + 1))
      show fl (u + 512 + (n + 1)) ≤ _
      omega
  have hE : ∀ (q D : Nat → Int32) u, sgN [(q, sz, D)] u ≤ u + 5100 := by
    intro q D u
    have := fl_le (u + 512 + sz)
    show fl (u + 512 + sz) ≤ _
    omega
  unfold segs
  rw [sgN_a, sgN_a]
  refine Nat.le_trans (hE _ _ _) ?_
  by_cases x2 : x = 2
  · rw [if_pos x2, if_neg (show ¬ x = 3 by omega)]
    have := hX d
    show sgN (sgX S) d + 5100 ≤ _
    omega
  · rw [if_neg x2]
    by_cases x3 : x = 3
    · rw [if_pos x3, sgN_a]
      have h1 := hL 75 ls lb d hls
      have h2 := hL 76 ns nb (sgN (sgL 75 ls lb) d) hns
      show sgN (sgL 76 ns nb) (sgN (sgL 75 ls lb) d) + 5100 ≤ _
      omega
    · rw [if_neg x3]
      show d + 5100 ≤ _
      omega
theorem g_putE {e x ns ls k sz na wu wg wt t : Nat} {nb lb : Nat → Int32} {sp kd sd : Int32} {U Gd T : Int64} (q : WG G0 m I J A B d 0 g h G) (he : e < 8) (hx : x < 4) (hkd : A 2 e = kd) (hk : B 7 (5 * e) = lN k) (hU : B 7 (5 * e + 1) = U) (hG : B 7 (5 * e + 2) = Gd) (hT : B 7 (5 * e + 3) = T) (p4 : B 7 (5 * e + 4) = lN na) (hsz : A 8 e = nI sz) (hsd : A 9 e = sd) (hs : A 4 e = nI ns) (hnb : ∀ j, j < ns → A 3 (400 * e + j) = nb j) (hl : A 6 e = nI ls) (hlb : ∀ j, j < ls → A 5 (400 * e + j) = lb j) (hd : EnD ns ls k sz na wu wg wt t nb lb sp kd U Gd T) (hd2 : d + 10000 ≤ 120000) : Ok (WG G0 m I J A B (sgN (segs x kd k sz sd U Gd T ns sp nb ls lb (SR ns nb sp ls lb U Gd T na wu wg wt t)) d) 0 (sgF (segs x kd k sz sd U Gd T ns sp nb ls lb (SR ns nb sp ls lb U Gd T na wu wg wt t)) d g) h) (fX11_put v G m (nI e) (nI x)) := by
  subst hU hG hT
  obtain ⟨w1, w2, w3⟩ := hd.tl
  have hN := SR_le (nb := nb) (lb := lb) (sp := sp) (U := B 7 (5 * e + 1)) (Gd := B 7 (5 * e + 2)) hd.1.2.1 hd.1.2.2.1 w1 w2 w3
  have hd' := hd
  obtain ⟨⟨d1, d2, d3, d4, d5, d6, d7⟩, ⟨e1, e2, e3, e4⟩, ⟨f1, f2, f3, f4⟩, b1, b2⟩ := hd'
  have f84 : ∀ {d : Nat} {g : Nat → Int32} {G : gH}, WG G0 m I J A B d 0 g h G → d + 6000 ≤ 120000 → Ok (WG G0 m I J A B (sgN [(sealed (hdM x kd k sz (B 7 (5 * e + 1)) (B 7 (5 * e + 2)) (B 7 (5 * e + 3)) ns (spN x ns sp) nb ls lb), sz, dB sd)] d) 0 (sgF [(sealed (hdM x kd k sz (B 7 (5 * e + 1)) (B 7 (5 * e + 2)) (B 7 (5 * e + 3)) ns (spN x ns sp) nb ls lb), sz, dB sd)] d g) h) (jX11_put_84 v G m (nI e) (nI x)) := by
    intro d g G q hd3
    obtain ⟨T1, t1, t2, t3⟩ := sealed_T (hd.hd (x := x))
    rw [t3]
    exact g_put84 (sz := sz) q he hx hkd hk d4 hsz d5 hsd hs d1 d2 hnb hl d3 hlb d7 (by omega) t1 t2
  have lg : ∀ {d : Nat} {g : Nat → Int32} {G : gH} {c n : Nat} {kd : Int32} {nb : Nat → Int32}, WG G0 m I J A B d 0 g h G → (c = 3 ∨ c = 5) → (∀ j, j < n → A c (400 * e + j) = nb j) → n ≤ 400 → ¬ n ≤ 100 → kd &&& 255 = kd → d + 2000 ≤ 120000 → Ok (WG G0 m I J A B (sgN (sgL kd n nb) d) 0 (sgF (sgL kd n nb) d g) h) (fX11_long_ v G m kd (m + c) ((400 : Int32) * nI e) (nI n)) := by
    intro d g G c n kd nb q hc hnb hn z hkd hd3
    obtain ⟨T, t1, t2, t3⟩ := sealed_T (ahM_b (x := 3) (sz := n + 1) (l := LL) hkd (show ∀ j, j < 13 → LL.getD j 0 &&& 255 = LL.getD j 0 by decide))
    rw [sgL_l z, t3, show (400 : Int32) * nI e = nI (400 * e) from nI_mul 400 e]
    exact g_long q he hc hnb hn hd3 t1 t2
  unfold segs
  rw [sgN_a, sgN_a, sgF_a, sgF_a]
  unfold fX11_put
  refine Ok.e q.wr.ob ?_
  by_cases x2 : x = 2
  · rw [if_pos x2, if_neg (show ¬ x = 3 by omega)]
    have fin : ∀ {d : Nat} {g : Nat → Int32} {G : gH}, WG G0 m I J A B d 0 g h G → d + 6000 ≤ 120000 → Ok (WG G0 m I J A B (sgN [(sealed (hdM x kd k sz (B 7 (5 * e + 1)) (B 7 (5 * e + 2)) (B 7 (5 * e + 3)) ns (spN x ns sp) nb ls lb), sz, dB sd)] d) 0 (sgF [(sealed (hdM x kd k sz (B 7 (5 * e + 1)) (B 7 (5 * e + 2)) (B 7 (5 * e + 3)) ns (spN x ns sp) nb ls lb), sz, dB sd)] d g) h) (jX11_put_10 v G m (nI e) (nI x)) := by
      intro d g G q hd3
      unfold jX11_put_10 jX11_put_47
      rw [if_neg (show ¬ nI x = 3 by rw [x2]; decide), if_neg (show ¬ nI x = 3 by rw [x2]; decide)]
      exact f84 q hd3
    refine Ok.i (fun _ => ?_) (fun z => absurd (show nI x = 2 by rw [x2]; rfl) z)
    obtain ⟨T1, t1, t2, t3⟩ := sealed_T (ahM_b (x := 2) (kd := 120) (sz := rwN (SR ns nb sp ls lb (B 7 (5 * e + 1)) (B 7 (5 * e + 2)) (B 7 (5 * e + 3)) na wu wg wt t) 0) (l := PH) (by decide) (show ∀ j, j < 9 → PH.getD j 0 &&& 255 = PH.getD j 0 by decide))
    have ext := g_ext (v := v) q he hs d1 d2 hnb hl d3 hlb d7 e1 e2 e3 p4 e4 f1 f2 f3 f4 (by omega) t1 t2
    by_cases z : SR ns nb sp ls lb (B 7 (5 * e + 1)) (B 7 (5 * e + 2)) (B 7 (5 * e + 3)) na wu wg wt t = []
    · refine Ok.b (ext.1 z) (fun G1 q1 => ?_)
      rw [z]
      exact fin (d := d) (g := g) q1 (by omega)
    · refine Ok.b (ext.2 z) (fun G1 q1 => ?_)
      rw [sgX_n z, t3]
      have hf := fl_le (d + 512 + rwN (SR ns nb sp ls lb (B 7 (5 * e + 1)) (B 7 (5 * e + 2)) (B 7 (5 * e + 3)) na wu wg wt t) 0)
      exact fin (d := fl (d + 512 + rwN (SR ns nb sp ls lb (B 7 (5 * e + 1)) (B 7 (5 * e + 2)) (B 7 (5 * e + 3)) na wu wg wt t) 0)) q1 (by omega)
  · rw [if_neg x2]
    refine Ok.i (fun z => absurd ((nI_eq (b := 2) (by omega) (by decide)).mp z) x2) (fun _ => ?_)
    unfold jX11_put_10
    by_cases x3 : x = 3
    · rw [if_pos x3, sgN_a, sgF_a]
      have f47 : ∀ {d : Nat} {g : Nat → Int32} {G : gH}, WG G0 m I J A B d 0 g h G → d + 8000 ≤ 120000 → Ok (WG G0 m I J A B (sgN [(sealed (hdM x kd k sz (B 7 (5 * e + 1)) (B 7 (5 * e + 2)) (B 7 (5 * e + 3)) ns (spN x ns sp) nb ls lb), sz, dB sd)] (sgN (sgL 76 ns nb) d)) 0 (sgF [(sealed (hdM x kd k sz (B 7 (5 * e + 1)) (B 7 (5 * e + 2)) (B 7 (5 * e + 3)) ns (spN x ns sp) nb ls lb), sz, dB sd)] (sgN (sgL 76 ns nb) d) (sgF (sgL 76 ns nb) d g)) h) (jX11_put_47 v G m (nI e) (nI x)) := by
        intro d g G q hd3
        unfold jX11_put_47
        refine Ok.i (fun _ => ?_) (fun z => absurd (show nI x = 3 by rw [x3]; rfl) z)
        refine Ok.e (q.wr.r 5 4 rfl (by decide)) ?_
        refine Ok.e (q.wr.ld 4 ⟨by decide, by decide, rfl, by decide, by decide⟩ rfl rfl (show e < 9 by omega)) ?_
        rw [hs]
        refine Ok.i (fun c => ?_) (fun c => ?_)
        · rw [sgL_s ((j100 (by omega)).mp c)]
          exact f84 (d := d) (g := g) q (by omega)
        · have c' : ¬ ns ≤ 100 := fun z => c ((j100 (by omega)).mpr z)
          refine Ok.e (q.wr.r 4 3 rfl (by decide)) ?_
          refine Ok.e (q.wr.r 5 4 rfl (by decide)) ?_
          refine Ok.e (q.wr.ld 4 ⟨by decide, by decide, rfl, by decide, by decide⟩ rfl rfl (show e < 9 by omega)) ?_
          rw [hs]
          refine Ok.b (lg (kd := 76) q (Or.inl rfl) hnb d2 c' (by decide) (by omega)) (fun G1 q1 => ?_)
          refine f84 q1 ?_
          rw [sgL_l c']
          have := fl_le (d + 512 + (ns + 1))
          show fl (d + 512 + (ns + 1)) + 6000 ≤ _
          omega
      refine Ok.i (fun _ => ?_) (fun z => absurd (show nI x = 3 by rw [x3]; rfl) z)
      refine Ok.e (q.wr.r 7 6 rfl (by decide)) ?_
      refine Ok.e (q.wr.ld 6 ⟨by decide, by decide, rfl, by decide, by decide⟩ rfl rfl (show e < 9 by omega)) ?_
      rw [hl]
      refine Ok.i (fun c => ?_) (fun c => ?_)
      · rw [sgL_s (kd := 75) ((j100 (by omega)).mp c)]
        exact f47 (d := d) (g := g) q (by omega)
      · have c' : ¬ ls ≤ 100 := fun z => c ((j100 (by omega)).mpr z)
        refine Ok.e (q.wr.r 6 5 rfl (by decide)) ?_
        refine Ok.e (q.wr.r 7 6 rfl (by decide)) ?_
        refine Ok.e (q.wr.ld 6 ⟨by decide, by decide, rfl, by decide, by decide⟩ rfl rfl (show e < 9 by omega)) ?_
        rw [hl]
        refine Ok.b (lg (kd := 75) q (Or.inr rfl) hlb d3 c' (by decide) (by omega)) (fun G1 q1 => ?_)
        refine f47 q1 ?_
        rw [sgL_l c']
        have := fl_le (d + 512 + (ls + 1))
        show fl (d + 512 + (ls + 1)) + 8000 ≤ _
        omega
    · rw [if_neg x3]
      have n3 : ¬ nI x = 3 := fun z => x3 ((nI_eq (b := 3) (by omega) (by decide)).mp z)
      unfold jX11_put_47
      rw [if_neg n3, if_neg n3]
      exact f84 (d := d) (g := g) q (by omega)
end PM
