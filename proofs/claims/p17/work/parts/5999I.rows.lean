/-! PURE: the ROWS of an ENTRY, class side -/
def PA : List Int32 := [112, 97, 116, 104]
def LK : List Int32 := [108, 105, 110, 107, 112, 97, 116, 104]
def UI : List Int32 := [117, 105, 100]
def GI : List Int32 := [103, 105, 100]
def MT : List Int32 := [109, 116, 105, 109, 101]
/-- ROWS one behind the other: key, how many bytes, which -/
def rwN : List (List Int32 × Nat × (Nat → Int32)) → Nat → Nat
  | [], N => N
  | r :: t, N => rwN t (N + rl (r.1.length + r.2.1 + 3))
def rwR : List (List Int32 × Nat × (Nat → Int32)) → Nat → (Nat → Int32) → Nat → Int32
  | [], _, R => R
  | r :: t, N, R => rwR t (N + rl (r.1.length + r.2.1 + 3)) (rwF R N (rl (r.1.length + r.2.1 + 3)) (dg (rl (r.1.length + r.2.1 + 3))) r.1 r.2.1 r.2.2)
theorem rwN_a (s t : List (List Int32 × Nat × (Nat → Int32))) : ∀ N, rwN (s ++ t) N = rwN t (rwN s N) := by
  induction s with
  | nil => intro N; rfl
  | cons r s ih => intro N; exact ih _
theorem rwR_a (s t : List (List Int32 × Nat × (Nat → Int32))) : ∀ N R, rwR (s ++ t) N R = rwR t (rwN s N) (rwR s N R) := by
  induction s with
  | nil => intro N R; rfl
  | cons r s ih => intro N R; exact ih _ _
theorem rwR_c : ∀ (t : List (List Int32 × Nat × (Nat → Int32))) (N : Nat) (R R' : Nat → Int32), (∀ r ∈ t, r.1.length + r.2.1 + 3 < 420) → (∀ j, j < N → R j = R' j) → ∀ j, j < rwN t N → rwR t N R j = rwR t N R' j := by
  intro t
  induction t with
  | nil => intro N R R' _ e j hj; exact e j hj
  | cons r t ih =>
    intro N R R' hr e j hj
    have h0 := hr r List.mem_cons_self
    have hk := rl_ok (r.1.length + r.2.1 + 3) h0
    refine ih _ _ _ (fun r hr' => hr r (List.mem_cons_of_mem _ hr')) (fun j hj => ?_) j hj
    exact rwF_c e (fun _ _ => rfl) j (by omega)
def StrsX (v : Nat → Nat) (b : Nat) (G : gH) : Prop := StrX b G (v 11) PH ∧ StrX b G (v 12) LL ∧ StrX b G (v 13) PA ∧ StrX b G (v 14) LK ∧ StrX b G (v 15) UI ∧ StrX b G (v 16) GI ∧ StrX b G (v 17) MT
theorem StrsX.ag {v : Nat → Nat} {b : Nat} {G G' : gH} (h : StrsX v b G) (k : ∀ q, q < b → G'.1 q = G.1 q ∧ G'.2.1 q = G.2.1 q) : StrsX v b G' := ⟨h.1.ag k, h.2.1.ag k, h.2.2.1.ag k, h.2.2.2.1.ag k, h.2.2.2.2.1.ag k, h.2.2.2.2.2.1.ag k, h.2.2.2.2.2.2.ag k⟩
/-- what the class's writing rests on: the writer, ENTRY i, the magics, the keys -/
def EnvC (v : Nat → Nat) (b i ns ls : Nat) (nb lb : Nat → Int32) (pn : Nat → Int64) (kd sz sd : Int32) (G : gH) : Prop :=
  G.2.1 (b + 6) = some (2, [.ref (b + 3), .ref (b + 7), .ref (b + 9)]) ∧ G.2.1 (b + (266 + 6 * i)) = some (3, [.ref (b + (266 + 6 * i) + 1), .ref (b + (266 + 6 * i) + 3), .ref (b + (266 + 6 * i) + 5), .int kd, .int sz, .int sd]) ∧ G.1 (b + (266 + 6 * i) + 5) = some (.long, true, 5, fun j => .long (pn j)) ∧ RowB G (b + (266 + 6 * i) + 1) 400 ns nb ∧ RowB G (b + (266 + 6 * i) + 3) 400 ls lb ∧ Mgs v b G ∧ StrsX v b G
theorem Mgs.up {v : Nat → Nat} {a a' : Nat} {G : gH} (h : Mgs v a G) (k : a ≤ a') : Mgs v a' G := ⟨⟨Nat.lt_of_lt_of_le h.1.1 k, h.1.2⟩, Nat.lt_of_lt_of_le h.2.1 k, h.2.2⟩
section RI
variable {v : Nat → Nat} {G G' : gH} {b i ns ls : Nat} {nb lb : Nat → Int32} {pn : Nat → Int64} {kd sz sd : Int32}
theorem EnvC.fr {x : Nat} (h : EnvC v b i ns ls nb lb pn kd sz sd G) (k : Fr2 G G' (b + x)) (hx : x = 3 ∨ x = 7 ∨ x = 9) : EnvC v b i ns ls nb lb pn kd sz sd G' := by
  obtain ⟨h1, h2, h3, h4, h5, h6, h7⟩ := h
  have lo : ∀ q, q < b → G'.1 q = G.1 q ∧ G'.2.1 q = G.2.1 q := fun q hq => ⟨k.2.1 q (by omega), k.2.2 q (by omega)⟩
  refine ⟨k.ob (by omega) h1, k.ob (by omega) h2, by rw [k.2.1 _ (by omega)]; exact h3, h4.fr k (by omega), h5.fr k (by omega), ⟨⟨h6.1.1, by rw [(lo _ h6.1.1).1]; exact h6.1.2⟩, h6.2.1, by rw [(lo _ h6.2.1).1]; exact h6.2.2⟩, h7.ag lo⟩
/-- only the Rows rows and value may have changed -/
def F79 (b : Nat) (G G' : gH) : Prop := G'.2.2 = G.2.2 ∧ (∀ q, q ≠ b + 8 → q ≠ b + 10 → G'.1 q = G.1 q) ∧ ∀ q, q ≠ b + 7 → q ≠ b + 9 → G'.2.1 q = G.2.1 q
theorem F79.rf : F79 b G G := ⟨rfl, fun _ _ _ => rfl, fun _ _ _ => rfl⟩
theorem F79.tr {G1 : gH} (h : F79 b G G1) (k : F79 b G1 G') : F79 b G G' := ⟨k.1.trans h.1, fun q q1 q2 => (k.2.1 q q1 q2).trans (h.2.1 q q1 q2), fun q q1 q2 => (k.2.2 q q1 q2).trans (h.2.2 q q1 q2)⟩
theorem Fr2.f7 (h : Fr2 G G' (b + 7)) : F79 b G G' := ⟨h.1, fun q q1 _ => h.2.1 q (by omega), fun q q1 _ => h.2.2 q q1⟩
theorem Fr2.f9 (h : Fr2 G G' (b + 9)) : F79 b G G' := ⟨h.1, fun q _ q2 => h.2.1 q (by omega), fun q _ q2 => h.2.2 q q2⟩
/-- the state while ROWS are made: N bytes R -/
def RwS (v : Nat → Nat) (b i ns ls : Nat) (nb lb : Nat → Int32) (pn : Nat → Int64) (kd sz sd : Int32) (G0 : gH) (N : Nat) (R : Nat → Int32) (G : gH) : Prop := EnvC v b i ns ls nb lb pn kd sz sd G ∧ RowB G (b + 7) 1024 N R ∧ (∃ u g, RowB G (b + 9) 40 u g) ∧ F79 b G0 G
variable {G0 : gH} {N : Nat} {R : Nat → Int32}
theorem RwS.row {s c capc uc : Nat} {gc : Nat → Int32} {l : List Int32} (h : RwS v b i ns ls nb lb pn kd sz sd G0 N R G) (hc : c ≠ b + 7) (rc : RowB G c capc uc gc) (hS : StrX b G s l) (hl : l.length ≤ 8) (huc : uc ≤ 400) (hN : N + rl (l.length + uc + 3) ≤ 1024) : ∃ G', fX2_addRow v G (b + 6) s c = some G' ∧ RwS v b i ns ls nb lb pn kd sz sd G0 (rwN [(l, uc, gc)] N) (rwR [(l, uc, gc)] N R) G' := by
  obtain ⟨h1, h2, ⟨u, g, h3⟩, h4⟩ := h
  obtain ⟨G', e, r, k⟩ := k_addRow (v := v) (by omega) hc h1.1 h2 rc hS (by omega) hl huc hN
  exact ⟨G', e, h1.fr r (Or.inr (Or.inl rfl)), k, ⟨u, g, h3.fr r (by omega)⟩, h4.tr r.f7⟩
theorem RwS.c (h : RwS v b i ns ls nb lb pn kd sz sd G0 N R G) {R' : Nat → Int32} (e : ∀ j, j < N → R j = R' j) : RwS v b i ns ls nb lb pn kd sz sd G0 N R' G := ⟨h.1, h.2.1.c e, h.2.2⟩
theorem RwS.same {l : List Int32} {uc : Nat} {gc gc' : Nat → Int32} (h : RwS v b i ns ls nb lb pn kd sz sd G0 (rwN [(l, uc, gc)] N) (rwR [(l, uc, gc)] N R) G) (hr : l.length + uc + 3 < 420) (e : ∀ j, j < uc → gc j = gc' j) : RwS v b i ns ls nb lb pn kd sz sd G0 (rwN [(l, uc, gc')] N) (rwR [(l, uc, gc')] N R) G := by
  have hk := rl_ok (l.length + uc + 3) hr
  refine RwS.c (N := rwN [(l, uc, gc')] N) h (fun j hj => ?_)
  have hj2 : j < N + rl (l.length + uc + 3) := hj
  exact rwF_c (fun _ _ => rfl) e j (by dsimp only; omega)
theorem RwS.num {s k wd : Nat} {l : List Int32} {V : Int64} (h : RwS v b i ns ls nb lb pn kd sz sd G0 N R G) (hV : V = lN k) (hk : k < 10 ^ 18) (hw : DW k wd) (hS : StrX b G s l) (hl : l.length ≤ 8) (hN : N + rl (l.length + wd + 3) ≤ 1024) : ∃ G', fX2_addNumberRow v G (b + 6) s V = some G' ∧ RwS v b i ns ls nb lb pn kd sz sd G0 (rwN [(l, wd, dd k wd)] N) (rwR [(l, wd, dd k wd)] N R) G' := by
  subst hV
  obtain ⟨h1, h2, ⟨u, g, h3⟩, h4⟩ := h
  have w18 := hw.2.1
  obtain ⟨G1, e1, r1, b1⟩ := rb_empty (v := v) h3
  obtain ⟨G2, e2, r2, b2⟩ := rb_addDecimal (v := v) b1 hk hw (by omega)
  have f2 := r1.tr r2
  have h12 := h1.fr f2 (Or.inr (Or.inr rfl))
  have lo : ∀ q, q < b → G2.1 q = G.1 q ∧ G2.2.1 q = G.2.1 q := fun q hq => ⟨f2.2.1 q (by omega), f2.2.2 q (by omega)⟩
  rw [Nat.zero_add] at b2
  obtain ⟨G3, e3, k3⟩ := RwS.row (v := v) (s := s) (c := b + 9) (l := l) ⟨h12, h2.fr f2 (by omega), ⟨wd, _, b2⟩, h4.tr f2.f9⟩ (by omega) b2 (hS.ag lo) hl (by omega) hN
  refine ⟨G3, ?_, k3.same (by omega) (fun j hj => by rw [fa_i (by omega), Nat.sub_zero])⟩
  unfold fX2_addNumberRow
  rw [gOb_at h1.1, Option.bind_some, gR_at h1.1 (k := 2) (x := b + 9) rfl, Option.bind_some, e1, Option.bind_some, gR_at (h1.fr r1 (Or.inr (Or.inr rfl))).1 (k := 2) (x := b + 9) rfl, Option.bind_some, e2, Option.bind_some, gR_at h12.1 (k := 2) (x := b + 9) rfl, Option.bind_some, e3, Option.bind_some]
theorem RwS.time {T : Int64} {na wd t : Nat} (h : RwS v b i ns ls nb lb pn kd sz sd G0 N R G) (h1 : -1099511627776 ≤ T.toInt) (h2 : T.toInt ≤ 1125899906842624) (hna : na ≤ 999999999) (hw : DW (tmW T.toInt na) wd) (ht : FT (tmR T.toInt na) t) (p3 : pn 3 = T) (p4 : pn 4 = lN na) (hN : N + rl (MT.length + tL (tmN T.toInt) wd (tmR T.toInt na) t + 3) ≤ 1024) : ∃ G', jX2_makeRows_123 v G (b + 6) (b + (266 + 6 * i)) = some G' ∧ RwS v b i ns ls nb lb pn kd sz sd G0 (rwN [(MT, tL (tmN T.toInt) wd (tmR T.toInt na) t, tF (fun _ => 0) (tmN T.toInt) (tmW T.toInt na) wd (tmR T.toInt na) t)] N) (rwR [(MT, tL (tmN T.toInt) wd (tmR T.toInt na) t, tF (fun _ => 0) (tmN T.toInt) (tmW T.toInt na) wd (tmR T.toInt na) t)] N R) G' := by
  obtain ⟨g1, g2, ⟨u, g, g3⟩, g4⟩ := h
  have w18 := hw.2.1
  have t9 := ht.1
  have hL : tL (tmN T.toInt) wd (tmR T.toInt na) t ≤ 29 := by
    unfold tL tmN frL
    repeat' split
    all_goals omega
  obtain ⟨G1, e1, r1, b1⟩ := k_makeTime (v := v) (N := na) (by omega) g1.1 g3 h1 h2 hna hw ht
  have h12 := g1.fr r1 (Or.inr (Or.inr rfl))
  obtain ⟨G2, e2, k2⟩ := RwS.row (v := v) (s := v 17) (c := b + 9) (l := MT) ⟨h12, g2.fr r1 (by omega), ⟨_, _, b1⟩, g4.tr r1.f9⟩ (by omega) b1 h12.2.2.2.2.2.2.2.2.2.2.2.2 (by decide) (by omega) hN
  refine ⟨G2, ?_, k2.same (by show 5 + _ + 3 < 420; omega) (tF_c (by unfold tmN; split <;> omega))⟩
  have ld : ∀ j, j < 5 → gLdJ G (b + (266 + 6 * i) + 5) (nI j) = some (pn j) := fun j hj => ld_lng g1.2.2.1 hj (by decide) rfl
  unfold jX2_makeRows_123
  rw [gR_at g1.2.1 (k := 2) (x := b + (266 + 6 * i) + 5) rfl, Option.bind_some, show gLdJ G (b + (266 + 6 * i) + 5) 3 = _ from ld 3 (by decide), Option.bind_some, Option.bind_some, show gLdJ G (b + (266 + 6 * i) + 5) 4 = _ from ld 4 (by decide), Option.bind_some, p3, p4, lN_i, e1, Option.bind_some, gR_at h12.1 (k := 2) (x := b + 9) rfl, Option.bind_some, e2, Option.bind_some]
theorem k_inFB {ea nr ns : Nat} {nb : Nat → Int32} {sp : Int32} {fs : List Value} (oe : G.2.1 ea = some (3, fs)) (hf0 : fs[0]? = some (.ref nr)) (rn : RowB G nr 400 ns nb) (hsp : SpR nb ns sp) : fX3_isNameInFields v G ea = some (bI (nfB ns sp)) := by
  have hns := rn.le
  obtain ⟨r0, er, hr0⟩ : ∃ r, fX3_split v G ea = some r ∧ r = sp := by
    obtain ⟨f0, k1, k2⟩ := rn
    obtain ⟨r, er, hr⟩ := k_splitR (v := v) oe hf0 k1 hns.1
    exact ⟨r, er, (hr.c (fun j hj => k2 j hj)).u hsp⟩
  subst hr0
  unfold fX3_isNameInFields jX3_isNameInFields_19 nfB
  rw [gOb_at oe, Option.bind_some, gR_at oe hf0, Option.bind_some, rb_count rn, Option.bind_some, gZ_0, gZ_1]
  by_cases c : ns ≤ 100
  · rw [if_pos ((j100 (by omega)).mpr c), Option.bind_some, decide_eq_true c, Bool.true_or, bI_t]
  · rw [if_neg (fun q => c ((j100 (by omega)).mp q)), er, Option.bind_some, decide_eq_false c, Bool.false_or]
    by_cases c2 : r0 ≤ 0
    · rw [if_pos c2, Option.bind_some, decide_eq_false (fun q => q c2), bI_f]
    · rw [if_neg c2, Option.bind_some, decide_eq_true c2, bI_t]
/-- the ROWS of an ENTRY -/
def sr1 (ns : Nat) (nb : Nat → Int32) (sp : Int32) : List (List Int32 × Nat × (Nat → Int32)) := if nfB ns sp = true then [] else [(PA, ns, nb)]
def sr2 (ls : Nat) (lb : Nat → Int32) : List (List Int32 × Nat × (Nat → Int32)) := if ls ≤ 100 then [] else [(LK, ls, lb)]
def sr3 (l : List Int32) (V : Int64) (wd : Nat) : List (List Int32 × Nat × (Nat → Int32)) := if fitB V 8 = true then [] else [(l, wd, dd V.toInt.toNat wd)]
theorem sr3_f {l : List Int32} {V : Int64} {wd : Nat} (c : fitB V 8 = false) : sr3 l V wd = [(l, wd, dd V.toInt.toNat wd)] := by
  unfold sr3
  rw [c]
  rfl
theorem sr3_t {l : List Int32} {V : Int64} {wd : Nat} (c : fitB V 8 = true) : sr3 l V wd = [] := by
  unfold sr3
  rw [c]
  rfl
def sr5 (T : Int64) (na wd t : Nat) : List (List Int32 × Nat × (Nat → Int32)) := if fitB T 12 = true ∧ na = 0 then [] else [(MT, tL (tmN T.toInt) wd (tmR T.toInt na) t, tF (fun _ => 0) (tmN T.toInt) (tmW T.toInt na) wd (tmR T.toInt na) t)]
def SR (ns : Nat) (nb : Nat → Int32) (sp : Int32) (ls : Nat) (lb : Nat → Int32) (U Gd T : Int64) (na wu wg wt t : Nat) : List (List Int32 × Nat × (Nat → Int32)) := sr1 ns nb sp ++ (sr2 ls lb ++ (sr3 UI U wu ++ (sr3 GI Gd wg ++ sr5 T na wt t)))
theorem rwN_1 {r : List Int32 × Nat × (Nat → Int32)} {N : Nat} (h : r.1.length + r.2.1 + 3 < 420) : N ≤ rwN [r] N ∧ rwN [r] N ≤ N + (r.1.length + r.2.1 + 7) := by
  have := rl_ok _ h
  show N ≤ N + rl _ ∧ N + rl _ ≤ _
  omega
theorem k_makeRows {sp : Int32} {U Gd T : Int64} {na wu wg wt t u7 : Nat} {g7 : Nat → Int32} (he : EnvC v b i ns ls nb lb pn kd sz sd G) (r7 : RowB G (b + 7) 1024 u7 g7) (r9 : ∃ u g, RowB G (b + 9) 40 u g) (hsp : SpR nb ns sp) (hs1 : 1 ≤ ns) (p1 : pn 1 = U) (p2 : pn 2 = Gd) (p3 : pn 3 = T) (p4 : pn 4 = lN na) (hU : 0 ≤ U.toInt ∧ U.toInt ≤ 36028797018963968) (hG : 0 ≤ Gd.toInt ∧ Gd.toInt ≤ 36028797018963968) (hT : -1099511627776 ≤ T.toInt ∧ T.toInt ≤ 1125899906842624) (hna : na ≤ 999999999) (hwu : DW U.toInt.toNat wu) (hwg : DW Gd.toInt.toNat wg) (hwt : DW (tmW T.toInt na) wt) (ht : FT (tmR T.toInt na) t) : ∃ G', fX2_makeRows v G (b + 6) (b + (266 + 6 * i)) = some G' ∧ RwS v b i ns ls nb lb pn kd sz sd G (rwN (SR ns nb sp ls lb U Gd T na wu wg wt t) 0) (rwR (SR ns nb sp ls lb U Gd T na wu wg wt t) 0 g7) G' := by
  have e18 : (10 : Nat) ^ 18 = 1000000000000000000 := by decide
  have hns := he.2.2.2.1.le
  have hls := he.2.2.2.2.1.le
  have wu18 := hwu.2.1
  have wg18 := hwg.2.1
  have wt18 := hwt.2.1
  have t9 := ht.1
  have hL : tL (tmN T.toInt) wt (tmR T.toInt na) t ≤ 29 := by
    unfold tL tmN frL
    repeat' split
    all_goals omega
  obtain ⟨G1, e1, r1, b1⟩ := rb_empty (v := v) r7
  have he1 := he.fr r1 (Or.inr (Or.inl rfl))
  have s0 : RwS v b i ns ls nb lb pn kd sz sd G 0 g7 G1 := by
    obtain ⟨u, g, h9⟩ := r9
    exact ⟨he1, b1, ⟨u, g, h9.fr r1 (by omega)⟩, r1.f7⟩
  have fin : ∀ {G1 : gH} {N : Nat} {R : Nat → Int32}, RwS v b i ns ls nb lb pn kd sz sd G N R G1 → N ≤ 900 → ∃ G', jX2_makeRows_98 v G1 (b + 6) (b + (266 + 6 * i)) = some G' ∧ RwS v b i ns ls nb lb pn kd sz sd G (rwN (sr5 T na wt t) N) (rwR (sr5 T na wt t) N R) G' := by
    intro G1 N R h hN
    have ld : ∀ j, j < 5 → gLdJ G1 (b + (266 + 6 * i) + 5) (nI j) = some (pn j) := fun j hj => ld_lng h.1.2.2.1 hj (by decide) rfl
    have hrl := (rl_ok (MT.length + tL (tmN T.toInt) wt (tmR T.toInt na) t + 3) (by show 5 + _ + 3 < 420; omega)).2.2.1
    obtain ⟨G2, e2, k2⟩ := h.time hT.1 hT.2 hna hwt ht p3 p4 (by have : MT.length = 5 := rfl; omega)
    unfold jX2_makeRows_98 sr5
    rw [gR_at h.1.2.1 (k := 2) (x := b + (266 + 6 * i) + 5) rfl, Option.bind_some, show gLdJ G1 (b + (266 + 6 * i) + 5) 3 = _ from ld 3 (by decide), Option.bind_some, p3, fits_c, Option.bind_some]
    cases c : fitB T 12
    · rw [bI_f, if_pos rfl, if_neg (fun z => absurd z.1 (by decide))]
      exact ⟨G2, e2, k2⟩
    · rw [bI_t, if_neg (by decide), Option.bind_some, show gLdJ G1 (b + (266 + 6 * i) + 5) 4 = _ from ld 4 (by decide), Option.bind_some, p4]
      by_cases z : na = 0
      · rw [if_pos (by rw [z]; rfl), if_pos ⟨rfl, z⟩]
        exact ⟨G1, rfl, h⟩
      · rw [if_neg (lN_n0 (by omega) (by omega)), if_neg (fun y => z y.2)]
        exact ⟨G2, e2, k2⟩
  have f72 : ∀ {G1 : gH} {N : Nat} {R : Nat → Int32}, RwS v b i ns ls nb lb pn kd sz sd G N R G1 → N ≤ 870 → ∃ G', jX2_makeRows_72 v G1 (b + 6) (b + (266 + 6 * i)) = some G' ∧ RwS v b i ns ls nb lb pn kd sz sd G (rwN (sr3 GI Gd wg ++ sr5 T na wt t) N) (rwR (sr3 GI Gd wg ++ sr5 T na wt t) N R) G' := by
    intro G1 N R h hN
    have ld : ∀ j, j < 5 → gLdJ G1 (b + (266 + 6 * i) + 5) (nI j) = some (pn j) := fun j hj => ld_lng h.1.2.2.1 hj (by decide) rfl
    rw [rwN_a, rwR_a]
    unfold jX2_makeRows_72
    have hr := rwN_1 (r := (GI, wg, dd Gd.toInt.toNat wg)) (N := N) (by show 3 + wg + 3 < 420; omega)
    have hr2 : rwN [(GI, wg, dd Gd.toInt.toNat wg)] N ≤ N + (3 + wg + 7) := hr.2
    rw [gR_at h.1.2.1 (k := 2) (x := b + (266 + 6 * i) + 5) rfl, Option.bind_some, show gLdJ G1 (b + (266 + 6 * i) + 5) 2 = _ from ld 2 (by decide), Option.bind_some, p2, fits_c, Option.bind_some]
    unfold sr3
    show ∃ G', (if bI (fitB Gd 8) = 0 then _ else _) = _ ∧ _
    cases c : fitB Gd 8
    · obtain ⟨G2, e2, k2⟩ := h.num (V := Gd) (k := Gd.toInt.toNat) (l := GI) (s := v 16) (i64_of (by omega) (by omega)) (by omega) hwg h.1.2.2.2.2.2.2.2.2.2.2.2.1 (by decide) (by have := (rl_ok (GI.length + wg + 3) (by show 3 + _ + 3 < 420; omega)).2.2.1; have : GI.length = 3 := rfl; omega)
      rw [bI_f, if_pos rfl, Option.bind_some, show gLdJ G1 (b + (266 + 6 * i) + 5) 2 = _ from ld 2 (by decide), Option.bind_some, p2, e2, Option.bind_some, if_neg (by decide)]
      exact fin k2 (by omega)
    · rw [bI_t, if_neg (by decide), if_pos rfl]
      exact fin (N := N) (R := R) h (by omega)
  have f46 : ∀ {G1 : gH} {N : Nat} {R : Nat → Int32}, RwS v b i ns ls nb lb pn kd sz sd G N R G1 → N ≤ 840 → ∃ G', jX2_makeRows_46 v G1 (b + 6) (b + (266 + 6 * i)) = some G' ∧ RwS v b i ns ls nb lb pn kd sz sd G (rwN (sr3 UI U wu ++ (sr3 GI Gd wg ++ sr5 T na wt t)) N) (rwR (sr3 UI U wu ++ (sr3 GI Gd wg ++ sr5 T na wt t)) N R) G' := by
    intro G1 N R h hN
    have ld : ∀ j, j < 5 → gLdJ G1 (b + (266 + 6 * i) + 5) (nI j) = some (pn j) := fun j hj => ld_lng h.1.2.2.1 hj (by decide) rfl
    rw [rwN_a, rwR_a]
    unfold jX2_makeRows_46
    have hr := rwN_1 (r := (UI, wu, dd U.toInt.toNat wu)) (N := N) (by show 3 + wu + 3 < 420; omega)
    have hr2 : rwN [(UI, wu, dd U.toInt.toNat wu)] N ≤ N + (3 + wu + 7) := hr.2
    rw [gR_at h.1.2.1 (k := 2) (x := b + (266 + 6 * i) + 5) rfl, Option.bind_some, show gLdJ G1 (b + (266 + 6 * i) + 5) 1 = _ from ld 1 (by decide), Option.bind_some, p1, fits_c, Option.bind_some]
    cases c : fitB U 8
    · obtain ⟨G2, e2, k2⟩ := h.num (V := U) (k := U.toInt.toNat) (l := UI) (s := v 15) (i64_of (by omega) (by omega)) (by omega) hwu h.1.2.2.2.2.2.2.2.2.2.2.1 (by decide) (by have := (rl_ok (UI.length + wu + 3) (by show 3 + _ + 3 < 420; omega)).2.2.1; have : UI.length = 3 := rfl; omega)
      rw [bI_f, if_pos rfl, Option.bind_some, show gLdJ G1 (b + (266 + 6 * i) + 5) 1 = _ from ld 1 (by decide), Option.bind_some, p1, e2, Option.bind_some, sr3_f c]
      exact f72 k2 (by omega)
    · rw [bI_t, if_neg (by decide), sr3_t c]
      exact f72 (N := N) (R := R) h (by omega)
  have f24 : ∀ {G1 : gH} {N : Nat} {R : Nat → Int32}, RwS v b i ns ls nb lb pn kd sz sd G N R G1 → N ≤ 420 → ∃ G', jX2_makeRows_24 v G1 (b + 6) (b + (266 + 6 * i)) = some G' ∧ RwS v b i ns ls nb lb pn kd sz sd G (rwN (sr2 ls lb ++ (sr3 UI U wu ++ (sr3 GI Gd wg ++ sr5 T na wt t))) N) (rwR (sr2 ls lb ++ (sr3 UI U wu ++ (sr3 GI Gd wg ++ sr5 T na wt t))) N R) G' := by
    intro G1 N R h hN
    rw [rwN_a, rwR_a]
    unfold jX2_makeRows_24 sr2
    have hr := rwN_1 (r := (LK, ls, lb)) (N := N) (by show 8 + ls + 3 < 420; omega)
    have hr2 : rwN [(LK, ls, lb)] N ≤ N + (8 + ls + 7) := hr.2
    rw [gR_at h.1.2.1 (k := 1) (x := b + (266 + 6 * i) + 3) rfl, Option.bind_some, rb_count h.1.2.2.2.2.1, Option.bind_some]
    by_cases c : ls ≤ 100
    · rw [if_pos ((j100 (by omega)).mpr c), if_pos c]
      exact f46 (N := N) (R := R) h (by omega)
    · obtain ⟨G2, e2, k2⟩ := h.row (s := v 14) (l := LK) (by omega) h.1.2.2.2.2.1 h.1.2.2.2.2.2.2.2.2.2.1 (by decide) (by omega) (by have := (rl_ok (LK.length + ls + 3) (by show 8 + _ + 3 < 420; omega)).2.2.1; have : LK.length = 8 := rfl; omega)
      rw [if_neg (fun q => c ((j100 (by omega)).mp q)), if_neg c, Option.bind_some, e2, Option.bind_some]
      exact f46 k2 (by omega)
  unfold SR
  rw [rwN_a, rwR_a]
  unfold fX2_makeRows sr1
  have hr := rwN_1 (r := (PA, ns, nb)) (N := 0) (by show 4 + ns + 3 < 420; omega)
  have hr2 : rwN [(PA, ns, nb)] 0 ≤ 0 + (4 + ns + 7) := hr.2
  rw [gOb_at he.1, Option.bind_some, gR_at he.1 (k := 1) (x := b + 7) rfl, Option.bind_some, e1, Option.bind_some, k_inFB he1.2.1 rfl he1.2.2.2.1 hsp, Option.bind_some]
  cases c : nfB ns sp
  · obtain ⟨G2, e2, k2⟩ := s0.row (s := v 13) (l := PA) (by omega) he1.2.2.2.1 he1.2.2.2.2.2.2.2.2.1 (by decide) (by omega) (by have := (rl_ok (PA.length + ns + 3) (by show 4 + _ + 3 < 420; omega)).2.2.1; have : PA.length = 4 := rfl; omega)
    rw [bI_f, if_pos rfl, gR_at he1.2.1 (k := 0) (x := b + (266 + 6 * i) + 1) rfl, Option.bind_some, e2, Option.bind_some, if_neg (by decide)]
    exact f24 k2 (by omega)
  · rw [bI_t, if_neg (by decide), if_pos rfl]
    exact f24 s0 (by decide)
end RI
/-! PURE: the ROWS of an ENTRY, the reference -/
theorem fa_app {g R k : Nat → Int32} {d N n : Nat} : fa (fa g d N R) (d + N) n k = fa g d (N + n) (fa R N n k) := by
  funext j
  by_cases q : d + N ≤ j ∧ j < d + N + n
  · rw [fa_i q, fa_i (by omega), fa_i (by omega), show j - (d + N) = j - d - N by omega]
  · rw [fa_n q]
    by_cases q2 : d ≤ j ∧ j < d + N
    · rw [fa_i q2, fa_i (by omega), fa_n (by omega)]
    · rw [fa_n q2, fa_n (by omega)]
theorem upd_app {g R : Nat → Int32} {d N : Nat} {x : Int32} : upd (fa g d N R) (d + N) x = fa g d (N + 1) (upd R N x) := by
  funext j
  by_cases q : j = d + N
  · subst q
    rw [updI_s, fa_i (by omega), show d + N - d = N by omega, updI_s]
  · rw [updI_n _ _ q]
    by_cases q2 : d ≤ j ∧ j < d + N
    · rw [fa_i q2, fa_i (by omega), updI_n _ _ (by omega)]
    · rw [fa_n q2, fa_n (by omega)]
theorem rwF_fa {g R gc : Nat → Int32} {d N L w uc : Nat} {l : List Int32} : rwF (fa g d N R) (d + N) L w l uc gc = fa g d (N + w + 1 + l.length + 1 + uc + 1) (rwF R N L w l uc gc) := by
  unfold rwF
  rw [fa_app (g := g) (d := d), show d + N + w = d + (N + w) by omega, upd_app (g := g) (d := d), show d + (N + w) + 1 = d + (N + w + 1) by omega, fa_app (g := g) (d := d), show d + (N + w + 1) + l.length = d + (N + w + 1 + l.length) by omega, upd_app (g := g) (d := d), show d + (N + w + 1 + l.length) + 1 = d + (N + w + 1 + l.length + 1) by omega, fa_app (g := g) (d := d), show d + (N + w + 1 + l.length + 1) + uc = d + (N + w + 1 + l.length + 1 + uc) by omega, upd_app (g := g) (d := d)]
theorem bhM_s {x j k sz sz' : Nat} {kd : Int32} (z : ¬ (124 ≤ j ∧ j < 136)) : bhM x kd k sz j = bhM x kd k sz' j := by
  have e : upd (fa (fa (fa (fa (fa (fun _ => 0) 100 8 (oF k 8)) 108 8 (oF 0 8)) 116 8 (oF 0 8)) 124 12 (oF sz 12)) 136 12 (oF 0 12)) 156 kd j = upd (fa (fa (fa (fa (fa (fun _ => 0) 100 8 (oF k 8)) 108 8 (oF 0 8)) 116 8 (oF 0 8)) 124 12 (oF sz' 12)) 136 12 (oF 0 12)) 156 kd j := by
    by_cases c : j = 156
    · subst c
      rw [updI_s, updI_s]
    · rw [updI_n _ _ c, updI_n _ _ c]
      by_cases y : 136 ≤ j ∧ j < 136 + 12
      · rw [fa_i y, fa_i y]
      · rw [fa_n y, fa_n y, fa_n (u := 124) (by omega), fa_n (u := 124) (by omega)]
  unfold bhM
  by_cases q : 257 ≤ j ∧ j < 265
  · exact mgF_c q e
  · rw [mgF_n q, mgF_n q]
    exact e
theorem fg_t {α : Type} {y : Int32} {s x : List α} (a : y = 0 ∧ s = [] ∨ y = 1 ∧ s = x) (z : y = 0) : s = [] := by
  rcases a with ⟨-, c⟩ | ⟨c, -⟩
  · exact c
  · rw [c] at z
    exact absurd z (by decide)
theorem fg_z {α : Type} {y : Int32} {s : List α} {x : α} (a : y = 0 ∧ s = [] ∨ y = 1 ∧ s = [x]) (z : s = []) : y = 0 := by
  rcases a with ⟨c, -⟩ | ⟨-, c⟩
  · exact c
  · rw [z] at c
    cases c
section EX
variable {v : Nat → Nat} {G0 G G' : gH} {m : Nat} {I : Nat → Int32} {J : Int64} {A : Nat → Nat → Int32} {B : Nat → Nat → Int64} {d w : Nat} {g h : Nat → Int32}
theorem WG.h0 (q : WG G0 m I J A B d 0 g h G) (h' : Nat → Int32) : WG G0 m I J A B d 0 g h' G := q.c (fun _ _ => rfl) (fun j hj => absurd hj (Nat.not_lt_zero _))
/-- a ROW behind N bytes R of ROWS -/
theorem g_row1 {N uc : Nat} {R gc h2 : Nat → Int32} {K : Int64} {l : List Int32} (q : WG G0 m I J A B (d + N) uc (fa g d N R) h2 G) (hK : KeyOk K l) (e : ∀ j, j < uc → h2 j = gc j) (huc : uc ≤ 400) (hd : d + N + 420 ≤ 120000) : Ok (WG G0 m I J A B (d + rwN [(l, uc, gc)] N) 0 (fa g d (rwN [(l, uc, gc)] N) (rwR [(l, uc, gc)] N R)) h) (fX11_row v G m K) := by
  have hl := hK.1
  have hk := rl_ok (l.length + uc + 3) (by omega)
  refine (g_row q hK huc (by omega)).w (fun G1 q1 => ?_)
  have e1 : d + N + rl (l.length + uc + 3) = d + rwN [(l, uc, gc)] N := Nat.add_assoc _ _ _
  rw [e1] at q1
  refine (q1.h0 h).c (fun j hj => ?_) (fun _ _ => rfl)
  rw [rwF_fa, show N + dg (rl (l.length + uc + 3)) + 1 + l.length + 1 + uc + 1 = rwN [(l, uc, gc)] N by show _ = N + rl (l.length + uc + 3); omega]
  refine fa_c (N := d + rwN [(l, uc, gc)] N) (fun _ _ _ => rfl) (fun j hj => ?_) j hj
  have hj2 : j < N + rl (l.length + uc + 3) := hj
  exact rwF_c (fun _ _ => rfl) e j (by omega)
theorem m_whole {e ns : Nat} {nb : Nat → Int32} {sp : Int32} (q : WG G0 m I J A B d w g h G) (he : e < 8) (hs : A 4 e = nI ns) (hs2 : ns ≤ 400) (hnb : ∀ j, j < ns → A 3 (400 * e + j) = nb j) (hsp : SpR nb ns sp) : fX11_isWhole v G m (nI e) 2 = some (bI (nfB ns sp)) := by
  obtain ⟨I', A', h1, h2, h3, h4, h5, h6, h7, h8⟩ := q
  have s4 : A' 4 e = nI ns := by rw [h3 4 (by decide) (by decide)]; exact hs
  obtain ⟨r, er, hr⟩ := m_splitOf (v := v) h1 he s4 hs2
  have hr2 : r = sp := (hr.c (fun j hj => by rw [h3 3 (by decide) (by decide)]; exact hnb j hj)).u hsp
  subst hr2
  unfold fX11_isWhole jX11_isWhole_24 nfB
  rw [h1.ob, Option.bind_some, h1.r 5 4 rfl (by decide), Option.bind_some, h1.ld 4 (ty := .int) (j := e) ⟨by decide, by decide, rfl⟩ rfl (show _ < 9 by omega), Option.bind_some, s4, gZ_0, gZ_1]
  by_cases c : ns ≤ 100
  · rw [if_pos ((j100 (by omega)).mpr c), Option.bind_some, decide_eq_true c, Bool.true_or, bI_t]
  · rw [if_neg (fun q => c ((j100 (by omega)).mp q)), if_neg (show ¬ (3 : Int32) ≤ 2 by decide), er, Option.bind_some, decide_eq_false c, Bool.false_or]
    by_cases c2 : r ≤ 0
    · rw [if_pos c2, Option.bind_some, decide_eq_false (fun q => q c2), bI_f]
    · rw [if_neg c2, Option.bind_some, decide_eq_true c2, bI_t]
theorem g_ext {e ns ls na wu wg wt t T : Nat} {nb lb : Nat → Int32} {sp : Int32} (q : WG G0 m I J A B d 0 g h G) (he : e < 8) (hs : A 4 e = nI ns) (hs1 : 1 ≤ ns) (hs2 : ns ≤ 400) (hnb : ∀ j, j < ns → A 3 (400 * e + j) = nb j) (hl : A 6 e = nI ls) (hl2 : ls ≤ 400) (hlb : ∀ j, j < ls → A 5 (400 * e + j) = lb j) (hsp : SpR nb ns sp) (hU : 0 ≤ (B 7 (5 * e + 1)).toInt ∧ (B 7 (5 * e + 1)).toInt ≤ 36028797018963968) (hG : 0 ≤ (B 7 (5 * e + 2)).toInt ∧ (B 7 (5 * e + 2)).toInt ≤ 36028797018963968) (hTm : -1099511627776 ≤ (B 7 (5 * e + 3)).toInt ∧ (B 7 (5 * e + 3)).toInt ≤ 1125899906842624) (p4 : B 7 (5 * e + 4) = lN na) (hna : na ≤ 999999999) (hwu : DW (B 7 (5 * e + 1)).toInt.toNat wu) (hwg : DW (B 7 (5 * e + 2)).toInt.toNat wg) (hwt : DW (tmW (B 7 (5 * e + 3)).toInt na) wt) (ht : FT (tmR (B 7 (5 * e + 3)).toInt na) t) (hd : d + 3000 ≤ 120000) (hT : smI (ahM 2 120 (rwN (SR ns nb sp ls lb (B 7 (5 * e + 1)) (B 7 (5 * e + 2)) (B 7 (5 * e + 3)) na wu wg wt t) 0) PH) 512 = nI T) (hT2 : T < 2 ^ 31) :
    (SR ns nb sp ls lb (B 7 (5 * e + 1)) (B 7 (5 * e + 2)) (B 7 (5 * e + 3)) na wu wg wt t = [] → Ok (WG G0 m I J A B d 0 g h) (fX11_extended v G m (nI e))) ∧
    (SR ns nb sp ls lb (B 7 (5 * e + 1)) (B 7 (5 * e + 2)) (B 7 (5 * e + 3)) na wu wg wt t ≠ [] → Ok (WG G0 m I J A B (fl (d + 512 + rwN (SR ns nb sp ls lb (B 7 (5 * e + 1)) (B 7 (5 * e + 2)) (B 7 (5 * e + 3)) na wu wg wt t) 0)) 0 (ENT g d (sealF T (ahM 2 120 (rwN (SR ns nb sp ls lb (B 7 (5 * e + 1)) (B 7 (5 * e + 2)) (B 7 (5 * e + 3)) na wu wg wt t) 0) PH)) (rwN (SR ns nb sp ls lb (B 7 (5 * e + 1)) (B 7 (5 * e + 2)) (B 7 (5 * e + 3)) na wu wg wt t) 0) (rwR (SR ns nb sp ls lb (B 7 (5 * e + 1)) (B 7 (5 * e + 2)) (B 7 (5 * e + 3)) na wu wg wt t) 0 (fun _ => 0))) h) (fX11_extended v G m (nI e))) := by
  obtain ⟨U, hUe⟩ : ∃ U, U = B 7 (5 * e + 1) := ⟨_, rfl⟩
  obtain ⟨Gd, hGe⟩ : ∃ Gd, Gd = B 7 (5 * e + 2) := ⟨_, rfl⟩
  obtain ⟨Tm, hTe⟩ : ∃ Tm, Tm = B 7 (5 * e + 3) := ⟨_, rfl⟩
  rw [← hUe] at hU hwu hT ⊢
  rw [← hGe] at hG hwg hT ⊢
  rw [← hTe] at hTm hwt ht hT ⊢
  obtain ⟨S, hS⟩ : ∃ S, S = SR ns nb sp ls lb U Gd Tm na wu wg wt t := ⟨_, rfl⟩
  rw [← hS] at hT ⊢
  have e18 : (10 : Nat) ^ 18 = 1000000000000000000 := by decide
  have wu18 := hwu.2.1
  have wg18 := hwg.2.1
  have wt18 := hwt.2.1
  have t9 := ht.1
  have hL : tL (tmN Tm.toInt) wt (tmR Tm.toInt na) t ≤ 29 := by
    unfold tL tmN frL
    repeat' split
    all_goals omega
  -- the size, the BLOCK filled, the SUM
  have f404 : ∀ {G1 : gH} {N : Nat} {R : Nat → Int32}, N ≤ 1000 → N = rwN S 0 → (∀ j, j < N → R j = rwR S 0 (fun _ => 0) j) → WG G0 m I J A B (d + 512 + N) 0 (fa (fa g d 512 (ahM 2 120 0 PH)) (d + 512) N R) h G1 → Ok (WG G0 m I J A B (fl (d + 512 + rwN S 0)) 0 (ENT g d (sealF T (ahM 2 120 (rwN S 0) PH)) (rwN S 0) (rwR S 0 (fun _ => 0))) h) (jX11_extended_404 v G1 m (nI d) (nI (d + 512))) := by
    intro G1 N R hN hN2 hR q1
    subst hN2
    have hfl := fl_le (d + 512 + rwN S 0)
    unfold jX11_extended_404
    refine Ok.e q1.wr.i14 ?_
    rw [pk_sub (by omega), show d + 512 + rwN S 0 - (d + 512) = rwN S 0 by omega, nI_l (by omega), show nI d + (124 : Int32) = nI (d + 124) from nI_add d 124, show (12 : Int32) = nI 12 from rfl]
    refine Ok.b (g_octal q1 (p := d + 124) (n := 12) (by omega) (by decide) (by decide) (by omega) (by omega)) (fun G2 q2 => ?_)
    refine Ok.b (g_fill q2 (by omega)) (fun G3 q3 => ?_)
    have q4 : WG G0 m I J A B (fl (d + 512 + rwN S 0)) 0 (ENT g d (ahM 2 120 (rwN S 0) PH) (rwN S 0) (rwR S 0 (fun _ => 0))) h G3 := by
      refine q3.c (fun j hj => ?_) (fun _ _ => rfl)
      unfold ENT
      refine fa_c (N := fl (d + 512 + rwN S 0)) (fun j hj q => ?_) (fun _ _ => rfl) j hj
      rw [fa_comm (by omega), fa_fa (by decide)]
      refine fa_c (N := d + 512 + rwN S 0) (fun j hj q => ?_) hR j (by omega)
      refine fa_c (N := d + 512) (fun _ _ _ => rfl) (fun j hj => ?_) j (by omega)
      unfold ahM
      by_cases z : 124 ≤ j ∧ j < 124 + 12
      · rw [fa_i z, fa_n (by have : PH.length = 9 := rfl; omega)]
        unfold bhM
        rw [mgF_n (by omega), updI_n _ _ (by omega), fa_n (u := 136) (by omega), fa_i z]
      · rw [fa_n z]
        by_cases y : 0 ≤ j ∧ j < 0 + PH.length
        · rw [fa_i y, fa_i y]
        · rw [fa_n y, fa_n y]
          exact bhM_s z
    refine Ok.b (g_endHead q4 (p := d) (T := T) (by omega) (by omega) ?_ hT2) (fun G5 q5 => ?_)
    · refine Eq.trans (smI_c (fun j hj _ => ?_) 512 (Nat.le_refl _)) hT
      show ENT g d _ _ _ (d + j) = _
      unfold ENT
      rw [fa_n (by omega), fa_n (by omega), fa_i (by omega), show d + j - d = j by omega]
    · rw [seal_ENT] at q5
      exact Ok.s q5
  -- the ROWS, from the last one on
  have ldn : ∀ {G1 : gH} {d1 w1 : Nat} {g1 h1 : Nat → Int32}, WG G0 m I J A B d1 w1 g1 h1 G1 → ∀ c, c < 5 → gLdJ G1 (m + 7) ((5 : Int32) * nI e + Int32.ofNat c) = some (B 7 (5 * e + c)) := fun q1 c hc => q1.wr.ldl 7 ⟨by decide, by decide, rfl⟩ (ix5 e c) (show _ < 45 by omega)
  have f368 : ∀ {G1 : gH} {N : Nat} {R : Nat → Int32} (y6 : Int32), (y6 = 0 ∧ sr5 Tm na wt t = [] ∨ y6 = 1 ∧ sr5 Tm na wt t = [(MT, tL (tmN Tm.toInt) wt (tmR Tm.toInt na) t, tF (fun _ => 0) (tmN Tm.toInt) (tmW Tm.toInt na) wt (tmR Tm.toInt na) t)]) → N ≤ 900 → rwN (sr5 Tm na wt t) N = rwN S 0 → rwR (sr5 Tm na wt t) N R = rwR S 0 (fun _ => 0) → WG G0 m I J A B (d + 512 + N) 0 (fa (fa g d 512 (ahM 2 120 0 PH)) (d + 512) N R) h G1 → Ok (WG G0 m I J A B (fl (d + 512 + rwN S 0)) 0 (ENT g d (sealF T (ahM 2 120 (rwN S 0) PH)) (rwN S 0) (rwR S 0 (fun _ => 0))) h) (jX11_extended_368 v G1 m (nI e) y6 (nI d) (nI (d + 512))) := by
    intro G1 N R y6 hy hN hn hr q1
    unfold jX11_extended_368
    rcases hy with ⟨rfl, hy⟩ | ⟨rfl, hy⟩
    · rw [hy] at hn hr
      refine Ok.i (fun _ => ?_) (fun z => absurd rfl z)
      exact f404 (N := N) (R := R) (by omega) hn (fun j _ => congrFun hr j) q1
    · rw [hy] at hn hr
      refine Ok.i (fun z => absurd z (by decide)) (fun _ => ?_)
      refine Ok.e (q1.wr.r 8 7 rfl (by decide)) ?_
      refine Ok.e (ldn q1 3 (by decide)) ?_
      refine Ok.e (q1.wr.r 8 7 rfl (by decide)) ?_
      refine Ok.e (ldn q1 4 (by decide)) ?_
      rw [← hTe, p4]
      refine Ok.b (g_sayTime q1 hTm.1 hTm.2 hna hwt ht) (fun G2 q2 => ?_)
      have hb := rwN_1 (r := (MT, tL (tmN Tm.toInt) wt (tmR Tm.toInt na) t, tF (fun _ => 0) (tmN Tm.toInt) (tmW Tm.toInt na) wt (tmR Tm.toInt na) t)) (N := N) (by show 5 + tL (tmN Tm.toInt) wt (tmR Tm.toInt na) t + 3 < 420; omega)
      have hb2 : rwN [(MT, tL (tmN Tm.toInt) wt (tmR Tm.toInt na) t, tF (fun _ => 0) (tmN Tm.toInt) (tmW Tm.toInt na) wt (tmR Tm.toInt na) t)] N ≤ N + (5 + tL (tmN Tm.toInt) wt (tmR Tm.toInt na) t + 7) := hb.2
      refine Ok.b (g_row1 (h := h) (uc := tL (tmN Tm.toInt) wt (tmR Tm.toInt na) t) (gc := tF (fun _ => 0) (tmN Tm.toInt) (tmW Tm.toInt na) wt (tmR Tm.toInt na) t) q2 key_time (tF_c (by unfold tmN; split <;> omega)) (by omega) (by omega)) (fun G3 q3 => ?_)
      exact f404 (by omega) hn (fun j _ => congrFun hr j) q3
  have f342 : ∀ {G1 : gH} {N : Nat} {R : Nat → Int32} (y5 y6 : Int32), (y5 = 0 ∧ sr3 GI Gd wg = [] ∨ y5 = 1 ∧ sr3 GI Gd wg = [(GI, wg, dd Gd.toInt.toNat wg)]) → (y6 = 0 ∧ sr5 Tm na wt t = [] ∨ y6 = 1 ∧ sr5 Tm na wt t = [(MT, tL (tmN Tm.toInt) wt (tmR Tm.toInt na) t, tF (fun _ => 0) (tmN Tm.toInt) (tmW Tm.toInt na) wt (tmR Tm.toInt na) t)]) → N ≤ 870 → rwN (sr3 GI Gd wg ++ sr5 Tm na wt t) N = rwN S 0 → rwR (sr3 GI Gd wg ++ sr5 Tm na wt t) N R = rwR S 0 (fun _ => 0) → WG G0 m I J A B (d + 512 + N) 0 (fa (fa g d 512 (ahM 2 120 0 PH)) (d + 512) N R) h G1 → Ok (WG G0 m I J A B (fl (d + 512 + rwN S 0)) 0 (ENT g d (sealF T (ahM 2 120 (rwN S 0) PH)) (rwN S 0) (rwR S 0 (fun _ => 0))) h) (jX11_extended_342 v G1 m (nI e) y5 y6 (nI d) (nI (d + 512))) := by
    intro G1 N R y5 y6 hy hy6 hN hn hr q1
    rw [rwN_a] at hn
    rw [rwR_a] at hr
    unfold jX11_extended_342
    rcases hy with ⟨rfl, hy⟩ | ⟨rfl, hy⟩
    · rw [hy] at hn hr
      refine Ok.i (fun _ => ?_) (fun z => absurd rfl z)
      exact f368 (N := N) (R := R) y6 hy6 (by omega) hn hr q1
    · rw [hy] at hn hr
      refine Ok.i (fun z => absurd z (by decide)) (fun _ => ?_)
      refine Ok.e (q1.wr.r 8 7 rfl (by decide)) ?_
      refine Ok.e (ldn q1 2 (by decide)) ?_
      rw [← hGe]
      have eV : Gd = lN Gd.toInt.toNat := i64_of (by omega) (by omega)
      have sn := g_sayNumber (v := v) q1 (k := Gd.toInt.toNat) (by omega) hwg (by omega)
      rw [← eV] at sn
      refine Ok.b sn (fun G2 q2 => ?_)
      rw [Nat.zero_add] at q2
      have hb := rwN_1 (r := (GI, wg, dd Gd.toInt.toNat wg)) (N := N) (by show 3 + wg + 3 < 420; omega)
      have hb2 : rwN [(GI, wg, dd Gd.toInt.toNat wg)] N ≤ N + (3 + wg + 7) := hb.2
      refine Ok.b (g_row1 (h := h) (uc := wg) (gc := dd Gd.toInt.toNat wg) q2 key_gid (fun j hj => by rw [fa_i (by omega), Nat.sub_zero]) (by omega) (by omega)) (fun G3 q3 => ?_)
      exact f368 y6 hy6 (by omega) hn hr q3
  have f316 : ∀ {G1 : gH} {N : Nat} {R : Nat → Int32} (y4 y5 y6 : Int32), (y4 = 0 ∧ sr3 UI U wu = [] ∨ y4 = 1 ∧ sr3 UI U wu = [(UI, wu, dd U.toInt.toNat wu)]) → (y5 = 0 ∧ sr3 GI Gd wg = [] ∨ y5 = 1 ∧ sr3 GI Gd wg = [(GI, wg, dd Gd.toInt.toNat wg)]) → (y6 = 0 ∧ sr5 Tm na wt t = [] ∨ y6 = 1 ∧ sr5 Tm na wt t = [(MT, tL (tmN Tm.toInt) wt (tmR Tm.toInt na) t, tF (fun _ => 0) (tmN Tm.toInt) (tmW Tm.toInt na) wt (tmR Tm.toInt na) t)]) → N ≤ 840 → rwN (sr3 UI U wu ++ (sr3 GI Gd wg ++ sr5 Tm na wt t)) N = rwN S 0 → rwR (sr3 UI U wu ++ (sr3 GI Gd wg ++ sr5 Tm na wt t)) N R = rwR S 0 (fun _ => 0) → WG G0 m I J A B (d + 512 + N) 0 (fa (fa g d 512 (ahM 2 120 0 PH)) (d + 512) N R) h G1 → Ok (WG G0 m I J A B (fl (d + 512 + rwN S 0)) 0 (ENT g d (sealF T (ahM 2 120 (rwN S 0) PH)) (rwN S 0) (rwR S 0 (fun _ => 0))) h) (jX11_extended_316 v G1 m (nI e) y4 y5 y6 (nI d) (nI (d + 512))) := by
    intro G1 N R y4 y5 y6 hy hy5 hy6 hN hn hr q1
    rw [rwN_a] at hn
    rw [rwR_a] at hr
    unfold jX11_extended_316
    rcases hy with ⟨rfl, hy⟩ | ⟨rfl, hy⟩
    · rw [hy] at hn hr
      refine Ok.i (fun _ => ?_) (fun z => absurd rfl z)
      exact f342 (N := N) (R := R) y5 y6 hy5 hy6 (by omega) hn hr q1
    · rw [hy] at hn hr
      refine Ok.i (fun z => absurd z (by decide)) (fun _ => ?_)
      refine Ok.e (q1.wr.r 8 7 rfl (by decide)) ?_
      refine Ok.e (ldn q1 1 (by decide)) ?_
      rw [← hUe]
      have eV : U = lN U.toInt.toNat := i64_of (by omega) (by omega)
      have sn := g_sayNumber (v := v) q1 (k := U.toInt.toNat) (by omega) hwu (by omega)
      rw [← eV] at sn
      refine Ok.b sn (fun G2 q2 => ?_)
      rw [Nat.zero_add] at q2
      have hb := rwN_1 (r := (UI, wu, dd U.toInt.toNat wu)) (N := N) (by show 3 + wu + 3 < 420; omega)
      have hb2 : rwN [(UI, wu, dd U.toInt.toNat wu)] N ≤ N + (3 + wu + 7) := hb.2
      refine Ok.b (g_row1 (h := h) (uc := wu) (gc := dd U.toInt.toNat wu) q2 key_uid (fun j hj => by rw [fa_i (by omega), Nat.sub_zero]) (by omega) (by omega)) (fun G3 q3 => ?_)
      exact f342 y5 y6 hy5 hy6 (by omega) hn hr q3
  have f268 : ∀ {G1 : gH} {N : Nat} {R : Nat → Int32} (y3 y4 y5 y6 : Int32), (y3 = 0 ∧ sr2 ls lb = [] ∨ y3 = 1 ∧ sr2 ls lb = [(LK, ls, lb)]) → (y4 = 0 ∧ sr3 UI U wu = [] ∨ y4 = 1 ∧ sr3 UI U wu = [(UI, wu, dd U.toInt.toNat wu)]) → (y5 = 0 ∧ sr3 GI Gd wg = [] ∨ y5 = 1 ∧ sr3 GI Gd wg = [(GI, wg, dd Gd.toInt.toNat wg)]) → (y6 = 0 ∧ sr5 Tm na wt t = [] ∨ y6 = 1 ∧ sr5 Tm na wt t = [(MT, tL (tmN Tm.toInt) wt (tmR Tm.toInt na) t, tF (fun _ => 0) (tmN Tm.toInt) (tmW Tm.toInt na) wt (tmR Tm.toInt na) t)]) → N ≤ 420 → rwN (sr2 ls lb ++ (sr3 UI U wu ++ (sr3 GI Gd wg ++ sr5 Tm na wt t))) N = rwN S 0 → rwR (sr2 ls lb ++ (sr3 UI U wu ++ (sr3 GI Gd wg ++ sr5 Tm na wt t))) N R = rwR S 0 (fun _ => 0) → WG G0 m I J A B (d + 512 + N) 0 (fa (fa g d 512 (ahM 2 120 0 PH)) (d + 512) N R) h G1 → Ok (WG G0 m I J A B (fl (d + 512 + rwN S 0)) 0 (ENT g d (sealF T (ahM 2 120 (rwN S 0) PH)) (rwN S 0) (rwR S 0 (fun _ => 0))) h) (jX11_extended_268 v G1 m (nI e) y3 y4 y5 y6 (nI d) (nI (d + 512))) := by
    intro G1 N R y3 y4 y5 y6 hy hy4 hy5 hy6 hN hn hr q1
    rw [rwN_a] at hn
    rw [rwR_a] at hr
    unfold jX11_extended_268
    rcases hy with ⟨rfl, hy⟩ | ⟨rfl, hy⟩
    · rw [hy] at hn hr
      refine Ok.i (fun _ => ?_) (fun z => absurd rfl z)
      exact f316 (N := N) (R := R) y4 y5 y6 hy4 hy5 hy6 (by omega) hn hr q1
    · rw [hy] at hn hr
      refine Ok.i (fun z => absurd z (by decide)) (fun _ => ?_)
      have hb := rwN_1 (r := (LK, ls, lb)) (N := N) (by show 8 + ls + 3 < 420; omega)
      have hb2 : rwN [(LK, ls, lb)] N ≤ N + (8 + ls + 7) := hb.2
      have lp : ∀ (r i u : Nat) (G2 : gH), i + r = ls → r < u → WG G0 m I J A B (d + 512 + N) i (fa (fa g d 512 (ahM 2 120 0 PH)) (d + 512) N R) lb G2 → Ok (WG G0 m I J A B (fl (d + 512 + rwN S 0)) 0 (ENT g d (sealF T (ahM 2 120 (rwN S 0) PH)) (rwN S 0) (rwR S 0 (fun _ => 0))) h) (lX11_extended_275 v u G2 m (nI e) y4 y5 y6 (nI d) (nI (d + 512)) (nI i)) := by
        intro r
        induction r with
        | zero =>
          intro i u G2 hi hu q2
          obtain ⟨u, rfl⟩ : ∃ u', u = u' + 1 := ⟨u - 1, by omega⟩
          show Ok _ (bX11_extended_275 v (lX11_extended_275 v u) G2 m (nI e) y4 y5 y6 (nI d) (nI (d + 512)) (nI i))
          unfold bX11_extended_275
          refine Ok.e (q2.wr.r 7 6 rfl (by decide)) ?_
          refine Ok.e (q2.wr.ld 6 ⟨by decide, by decide, rfl, by decide, by decide⟩ rfl rfl (show e < 9 by omega)) ?_
          rw [hl]
          have hil : i = ls := by omega
          rw [hil] at q2
          refine Ok.i (fun _ => ?_) (fun z => absurd (nI_le (by omega) (by omega)) z)
          refine Ok.b (g_row1 (h := h) (uc := ls) (gc := lb) q2 key_link (fun _ _ => rfl) hl2 (by omega)) (fun G3 q3 => ?_)
          exact f316 y4 y5 y6 hy4 hy5 hy6 (by omega) hn hr q3
        | succ r ih =>
          intro i u G2 hi hu q2
          obtain ⟨u, rfl⟩ : ∃ u', u = u' + 1 := ⟨u - 1, by omega⟩
          show Ok _ (bX11_extended_275 v (lX11_extended_275 v u) G2 m (nI e) y4 y5 y6 (nI d) (nI (d + 512)) (nI i))
          unfold bX11_extended_275
          refine Ok.e (q2.wr.r 7 6 rfl (by decide)) ?_
          refine Ok.e (q2.wr.ld 6 ⟨by decide, by decide, rfl, by decide, by decide⟩ rfl rfl (show e < 9 by omega)) ?_
          rw [hl]
          refine Ok.i (fun z => absurd z (nI_ge (by omega) (by omega))) (fun _ => ?_)
          refine Ok.e (q2.wr.r 6 5 rfl (by decide)) ?_
          refine Ok.e (q2.wr.ld 5 ⟨by decide, by decide, rfl, by decide, by decide⟩ rfl (ix400 e i) (show _ < 3600 by omega)) ?_
          rw [hlb i (by omega)]
          refine Ok.b (g_say q2 (lb i) (by omega)) (fun G3 q3 => ?_)
          refine Ok.e rfl ?_
          rw [nI_1]
          refine ih (i + 1) u G3 (by omega) (by omega) (q3.c (fun _ _ => rfl) (fun j hj => ?_))
          by_cases z : j = i
          · subst z
            rw [updI_s]
          · rw [updI_n _ _ z]
      exact lp ls 0 gFu G1 (by omega) (by unfold gFu; omega) (q1.h0 lb)
  -- the HEAD's name, then the ROW of the name
  have l162 : ∀ (y2 y3 y4 y5 y6 : Int32), (y2 = 0 ∧ sr1 ns nb sp = [] ∨ y2 = 1 ∧ sr1 ns nb sp = [(PA, ns, nb)]) → (y3 = 0 ∧ sr2 ls lb = [] ∨ y3 = 1 ∧ sr2 ls lb = [(LK, ls, lb)]) → (y4 = 0 ∧ sr3 UI U wu = [] ∨ y4 = 1 ∧ sr3 UI U wu = [(UI, wu, dd U.toInt.toNat wu)]) → (y5 = 0 ∧ sr3 GI Gd wg = [] ∨ y5 = 1 ∧ sr3 GI Gd wg = [(GI, wg, dd Gd.toInt.toNat wg)]) → (y6 = 0 ∧ sr5 Tm na wt t = [] ∨ y6 = 1 ∧ sr5 Tm na wt t = [(MT, tL (tmN Tm.toInt) wt (tmR Tm.toInt na) t, tF (fun _ => 0) (tmN Tm.toInt) (tmW Tm.toInt na) wt (tmR Tm.toInt na) t)]) → ∀ (r i u : Nat) (G1 : gH), i + r = 8 → r < u → WG G0 m I J A B (d + 512) 0 (fa g d 512 (fa (bhM 2 120 420 0) 0 i (fun j => PH.getD j 0))) h G1 → Ok (WG G0 m I J A B (fl (d + 512 + rwN S 0)) 0 (ENT g d (sealF T (ahM 2 120 (rwN S 0) PH)) (rwN S 0) (rwR S 0 (fun _ => 0))) h) (lX11_extended_162 v u G1 m (nI e) y2 y3 y4 y5 y6 (nI d) (nI i)) := by
    intro y2 y3 y4 y5 y6 hy hy3 hy4 hy5 hy6 r
    induction r with
    | zero =>
      intro i u G1 hi hu q0
      obtain ⟨u, rfl⟩ : ∃ u', u = u' + 1 := ⟨u - 1, by omega⟩
      obtain rfl : i = 8 := by omega
      show Ok _ (bX11_extended_162 v (lX11_extended_162 v u) G1 m (nI e) y2 y3 y4 y5 y6 (nI d) (nI 8))
      unfold bX11_extended_162
      refine Ok.i (fun _ => ?_) (fun z => absurd (by decide) z)
      refine Ok.e (q0.wr.r 13 11 rfl (by decide)) ?_
      refine Ok.b (q0.st (j := d + 8) (PH.getD 8 0) (nI_add d 8) (by omega) (by omega)) (fun G1 q1 => ?_)
      rw [fa_upd (by omega), fa_grow] at q1
      refine Ok.e q1.wr.i14 ?_
      obtain ⟨N, hN0⟩ : ∃ N, N = 0 := ⟨0, rfl⟩
      obtain ⟨R, hR0⟩ : ∃ R : Nat → Int32, R = fun _ => 0 := ⟨_, rfl⟩
      have q1 : WG G0 m I J A B (d + 512 + N) 0 (fa (fa g d 512 (ahM 2 120 0 PH)) (d + 512) N R) h G1 := by
        rw [hN0, fa_0]
        exact q1
      have hN : N ≤ 0 := by omega
      have hn : rwN (sr1 ns nb sp ++ (sr2 ls lb ++ (sr3 UI U wu ++ (sr3 GI Gd wg ++ sr5 Tm na wt t)))) N = rwN S 0 := by
        rw [hN0, hS]
        rfl
      have hr : rwR (sr1 ns nb sp ++ (sr2 ls lb ++ (sr3 UI U wu ++ (sr3 GI Gd wg ++ sr5 Tm na wt t)))) N R = rwR S 0 (fun _ => 0) := by
        rw [hN0, hR0, hS]
        rfl
      rw [rwN_a] at hn
      rw [rwR_a] at hr
      rcases hy with ⟨rfl, hy⟩ | ⟨rfl, hy⟩
      · rw [hy] at hn hr
        refine Ok.i (fun _ => ?_) (fun z => absurd rfl z)
        exact f268 (N := N) (R := R) y3 y4 y5 y6 hy3 hy4 hy5 hy6 (by omega) hn hr q1
      · rw [hy] at hn hr
        refine Ok.i (fun z => absurd z (by decide)) (fun _ => ?_)
        have hb := rwN_1 (r := (PA, ns, nb)) (N := N) (by show 4 + ns + 3 < 420; omega)
        have hb2 : rwN [(PA, ns, nb)] N ≤ N + (4 + ns + 7) := hb.2
        have lp : ∀ (r i u : Nat) (G2 : gH), i + r = ns → r < u → WG G0 m I J A B (d + 512 + N) i (fa (fa g d 512 (ahM 2 120 0 PH)) (d + 512) N R) nb G2 → Ok (WG G0 m I J A B (fl (d + 512 + rwN S 0)) 0 (ENT g d (sealF T (ahM 2 120 (rwN S 0) PH)) (rwN S 0) (rwR S 0 (fun _ => 0))) h) (lX11_extended_227 v u G2 m (nI e) y3 y4 y5 y6 (nI d) (nI (d + 512)) (nI i)) := by
          intro r
          induction r with
          | zero =>
            intro i u G2 hi hu q2
            obtain ⟨u, rfl⟩ : ∃ u', u = u' + 1 := ⟨u - 1, by omega⟩
            show Ok _ (bX11_extended_227 v (lX11_extended_227 v u) G2 m (nI e) y3 y4 y5 y6 (nI d) (nI (d + 512)) (nI i))
            unfold bX11_extended_227
            refine Ok.e (q2.wr.r 5 4 rfl (by decide)) ?_
            refine Ok.e (q2.wr.ld 4 ⟨by decide, by decide, rfl, by decide, by decide⟩ rfl rfl (show e < 9 by omega)) ?_
            rw [hs]
            have hil : i = ns := by omega
            rw [hil] at q2
            refine Ok.i (fun _ => ?_) (fun z => absurd (nI_le (by omega) (by omega)) z)
            refine Ok.b (g_row1 (h := h) (uc := ns) (gc := nb) q2 key_path (fun _ _ => rfl) hs2 (by omega)) (fun G3 q3 => ?_)
            exact f268 y3 y4 y5 y6 hy3 hy4 hy5 hy6 (by omega) hn hr q3
          | succ r ih =>
            intro i u G2 hi hu q2
            obtain ⟨u, rfl⟩ : ∃ u', u = u' + 1 := ⟨u - 1, by omega⟩
            show Ok _ (bX11_extended_227 v (lX11_extended_227 v u) G2 m (nI e) y3 y4 y5 y6 (nI d) (nI (d + 512)) (nI i))
            unfold bX11_extended_227
            refine Ok.e (q2.wr.r 5 4 rfl (by decide)) ?_
            refine Ok.e (q2.wr.ld 4 ⟨by decide, by decide, rfl, by decide, by decide⟩ rfl rfl (show e < 9 by omega)) ?_
            rw [hs]
            refine Ok.i (fun z => absurd z (nI_ge (by omega) (by omega))) (fun _ => ?_)
            refine Ok.e (q2.wr.r 4 3 rfl (by decide)) ?_
            refine Ok.e (q2.wr.ld 3 ⟨by decide, by decide, rfl, by decide, by decide⟩ rfl (ix400 e i) (show _ < 3600 by omega)) ?_
            rw [hnb i (by omega)]
            refine Ok.b (g_say q2 (nb i) (by omega)) (fun G3 q3 => ?_)
            refine Ok.e rfl ?_
            rw [nI_1]
            refine ih (i + 1) u G3 (by omega) (by omega) (q3.c (fun _ _ => rfl) (fun j hj => ?_))
            by_cases z : j = i
            · subst z
              rw [updI_s]
            · rw [updI_n _ _ z]
        exact lp ns 0 gFu G1 (by omega) (by unfold gFu; omega) (q1.h0 nb)
    | succ r ih =>
      intro i u G1 hi hu q0
      obtain ⟨u, rfl⟩ : ∃ u', u = u' + 1 := ⟨u - 1, by omega⟩
      show Ok _ (bX11_extended_162 v (lX11_extended_162 v u) G1 m (nI e) y2 y3 y4 y5 y6 (nI d) (nI i))
      unfold bX11_extended_162
      refine Ok.i (fun z => absurd z (show ¬ (8 : Int32) ≤ nI i from nI_ge (b := 8) (by omega) (by decide))) (fun _ => ?_)
      refine Ok.e (q0.wr.r 13 11 rfl (by decide)) ?_
      rw [ph_8 i (by omega)]
      refine Ok.b (q0.st (j := d + i) _ (nI_add d i) (by omega) (by omega)) (fun G2 q1 => ?_)
      rw [fa_upd (by omega), fa_grow] at q1
      refine Ok.e rfl ?_
      rw [nI_1]
      exact ih (i + 1) u G2 (by omega) (by omega) q1
  have f146 : ∀ (y2 y3 y4 y5 y6 : Int32), (y2 = 0 ∧ sr1 ns nb sp = [] ∨ y2 = 1 ∧ sr1 ns nb sp = [(PA, ns, nb)]) → (y3 = 0 ∧ sr2 ls lb = [] ∨ y3 = 1 ∧ sr2 ls lb = [(LK, ls, lb)]) → (y4 = 0 ∧ sr3 UI U wu = [] ∨ y4 = 1 ∧ sr3 UI U wu = [(UI, wu, dd U.toInt.toNat wu)]) → (y5 = 0 ∧ sr3 GI Gd wg = [] ∨ y5 = 1 ∧ sr3 GI Gd wg = [(GI, wg, dd Gd.toInt.toNat wg)]) → (y6 = 0 ∧ sr5 Tm na wt t = [] ∨ y6 = 1 ∧ sr5 Tm na wt t = [(MT, tL (tmN Tm.toInt) wt (tmR Tm.toInt na) t, tF (fun _ => 0) (tmN Tm.toInt) (tmW Tm.toInt na) wt (tmR Tm.toInt na) t)]) → Ok (WG G0 m I J A B (fl (d + 512 + rwN S 0)) 0 (ENT g d (sealF T (ahM 2 120 (rwN S 0) PH)) (rwN S 0) (rwR S 0 (fun _ => 0))) h) (jX11_extended_146 v G m (nI e) y2 y3 y4 y5 y6) := by
    intro y2 y3 y4 y5 y6 hy hy3 hy4 hy5 hy6
    unfold jX11_extended_146
    rw [show (420 : Int64) = lN 420 from rfl, show (2 : Int32) = nI 2 from rfl, show (0 : Int64) = lN 0 from rfl]
    refine Ok.b (g_head q (by decide) (by decide) (by decide) (by omega)) (fun r hr => ?_)
    obtain ⟨hr1, q1⟩ := hr
    rw [hr1]
    refine l162 y2 y3 y4 y5 y6 hy hy3 hy4 hy5 hy6 8 0 gFu r.2 (by omega) (by unfold gFu; omega) ?_
    rw [fa_0]
    exact q1
  have f120 : ∀ (y2 y3 y4 y5 y6 : Int32), (y2 = 0 ∧ sr1 ns nb sp = [] ∨ y2 = 1 ∧ sr1 ns nb sp = [(PA, ns, nb)]) → (y3 = 0 ∧ sr2 ls lb = [] ∨ y3 = 1 ∧ sr2 ls lb = [(LK, ls, lb)]) → (y4 = 0 ∧ sr3 UI U wu = [] ∨ y4 = 1 ∧ sr3 UI U wu = [(UI, wu, dd U.toInt.toNat wu)]) → (y5 = 0 ∧ sr3 GI Gd wg = [] ∨ y5 = 1 ∧ sr3 GI Gd wg = [(GI, wg, dd Gd.toInt.toNat wg)]) → (y6 = 0 ∧ sr5 Tm na wt t = [] ∨ y6 = 1 ∧ sr5 Tm na wt t = [(MT, tL (tmN Tm.toInt) wt (tmR Tm.toInt na) t, tF (fun _ => 0) (tmN Tm.toInt) (tmW Tm.toInt na) wt (tmR Tm.toInt na) t)]) → (S = [] → Ok (WG G0 m I J A B d 0 g h) (jX11_extended_120 v G m (nI e) y2 y3 y4 y5 y6)) ∧ (S ≠ [] → Ok (WG G0 m I J A B (fl (d + 512 + rwN S 0)) 0 (ENT g d (sealF T (ahM 2 120 (rwN S 0) PH)) (rwN S 0) (rwR S 0 (fun _ => 0))) h) (jX11_extended_120 v G m (nI e) y2 y3 y4 y5 y6)) := by
    intro y2 y3 y4 y5 y6 hy hy3 hy4 hy5 hy6
    have k := f146 y2 y3 y4 y5 y6 hy hy3 hy4 hy5 hy6
    refine ⟨fun hs => ?_, fun hs => ?_⟩
    · rw [hS] at hs
      unfold SR at hs
      obtain ⟨s1, hs⟩ := List.append_eq_nil_iff.mp hs
      obtain ⟨s2, hs⟩ := List.append_eq_nil_iff.mp hs
      obtain ⟨s3, hs⟩ := List.append_eq_nil_iff.mp hs
      obtain ⟨s4, s5⟩ := List.append_eq_nil_iff.mp hs
      unfold jX11_extended_120
      rw [if_pos (fg_z hy s1), if_pos (fg_z hy3 s2), if_pos (fg_z hy4 s3), if_pos (fg_z hy5 s4), if_pos (fg_z hy6 s5)]
      exact Ok.s q
    · unfold jX11_extended_120
      refine Ok.i (fun z2 => Ok.i (fun z3 => Ok.i (fun z4 => Ok.i (fun z5 => Ok.i (fun z6 => absurd ?_ hs) (fun _ => k)) (fun _ => k)) (fun _ => k)) (fun _ => k)) (fun _ => k)
      rw [hS]
      unfold SR
      rw [fg_t hy z2, fg_t hy3 z3, fg_t hy4 z4, fg_t hy5 z5, fg_t hy6 z6]
      rfl
  have f80 : ∀ (y2 y3 y4 y5 : Int32), (y2 = 0 ∧ sr1 ns nb sp = [] ∨ y2 = 1 ∧ sr1 ns nb sp = [(PA, ns, nb)]) → (y3 = 0 ∧ sr2 ls lb = [] ∨ y3 = 1 ∧ sr2 ls lb = [(LK, ls, lb)]) → (y4 = 0 ∧ sr3 UI U wu = [] ∨ y4 = 1 ∧ sr3 UI U wu = [(UI, wu, dd U.toInt.toNat wu)]) → (y5 = 0 ∧ sr3 GI Gd wg = [] ∨ y5 = 1 ∧ sr3 GI Gd wg = [(GI, wg, dd Gd.toInt.toNat wg)]) → (S = [] → Ok (WG G0 m I J A B d 0 g h) (jX11_extended_80 v G m (nI e) y2 y3 y4 y5)) ∧ (S ≠ [] → Ok (WG G0 m I J A B (fl (d + 512 + rwN S 0)) 0 (ENT g d (sealF T (ahM 2 120 (rwN S 0) PH)) (rwN S 0) (rwR S 0 (fun _ => 0))) h) (jX11_extended_80 v G m (nI e) y2 y3 y4 y5)) := by
    intro y2 y3 y4 y5 hy hy3 hy4 hy5
    have k1 : ¬ (fitB Tm 12 = true ∧ na = 0) → (1 : Int32) = 0 ∧ sr5 Tm na wt t = [] ∨ (1 : Int32) = 1 ∧ sr5 Tm na wt t = [(MT, tL (tmN Tm.toInt) wt (tmR Tm.toInt na) t, tF (fun _ => 0) (tmN Tm.toInt) (tmW Tm.toInt na) wt (tmR Tm.toInt na) t)] := fun z => Or.inr ⟨rfl, if_neg z⟩
    unfold jX11_extended_80 jX11_extended_115
    rw [q.wr.r 8 7 rfl (by decide), Option.bind_some, show gLdJ G (m + 7) ((5 : Int32) * nI e + (3 : Int32)) = _ from ldn q 3 (by decide), Option.bind_some, ← hTe, fits_e, Option.bind_some]
    cases c : fitB Tm 12
    · rw [bI_f, if_pos rfl]
      exact f120 y2 y3 y4 y5 1 hy hy3 hy4 hy5 (k1 (fun z => absurd (c.symm.trans z.1) (by decide)))
    · rw [bI_t, if_neg (by decide), Option.bind_some, show gLdJ G (m + 7) ((5 : Int32) * nI e + (4 : Int32)) = _ from ldn q 4 (by decide), Option.bind_some, p4]
      by_cases z : na = 0
      · rw [if_pos (by rw [z]; rfl)]
        exact f120 y2 y3 y4 y5 0 hy hy3 hy4 hy5 (Or.inl ⟨rfl, if_pos ⟨c, z⟩⟩)
      · rw [if_neg (lN_n0 (by omega) (by omega))]
        exact f120 y2 y3 y4 y5 1 hy hy3 hy4 hy5 (k1 (fun y => z y.2))
  have f55 : ∀ (y2 y3 y4 : Int32), (y2 = 0 ∧ sr1 ns nb sp = [] ∨ y2 = 1 ∧ sr1 ns nb sp = [(PA, ns, nb)]) → (y3 = 0 ∧ sr2 ls lb = [] ∨ y3 = 1 ∧ sr2 ls lb = [(LK, ls, lb)]) → (y4 = 0 ∧ sr3 UI U wu = [] ∨ y4 = 1 ∧ sr3 UI U wu = [(UI, wu, dd U.toInt.toNat wu)]) → (S = [] → Ok (WG G0 m I J A B d 0 g h) (jX11_extended_55 v G m (nI e) y2 y3 y4)) ∧ (S ≠ [] → Ok (WG G0 m I J A B (fl (d + 512 + rwN S 0)) 0 (ENT g d (sealF T (ahM 2 120 (rwN S 0) PH)) (rwN S 0) (rwR S 0 (fun _ => 0))) h) (jX11_extended_55 v G m (nI e) y2 y3 y4)) := by
    intro y2 y3 y4 hy hy3 hy4
    unfold jX11_extended_55
    rw [q.wr.r 8 7 rfl (by decide), Option.bind_some, show gLdJ G (m + 7) ((5 : Int32) * nI e + (2 : Int32)) = _ from ldn q 2 (by decide), Option.bind_some, ← hGe, fits_e, Option.bind_some]
    cases c : fitB Gd 8
    · rw [bI_f, if_pos rfl]
      exact f80 y2 y3 y4 1 hy hy3 hy4 (Or.inr ⟨rfl, sr3_f c⟩)
    · rw [bI_t, if_neg (by decide)]
      exact f80 y2 y3 y4 0 hy hy3 hy4 (Or.inl ⟨rfl, sr3_t c⟩)
  have f31 : ∀ (y2 y3 : Int32), (y2 = 0 ∧ sr1 ns nb sp = [] ∨ y2 = 1 ∧ sr1 ns nb sp = [(PA, ns, nb)]) → (y3 = 0 ∧ sr2 ls lb = [] ∨ y3 = 1 ∧ sr2 ls lb = [(LK, ls, lb)]) → (S = [] → Ok (WG G0 m I J A B d 0 g h) (jX11_extended_31 v G m (nI e) y2 y3)) ∧ (S ≠ [] → Ok (WG G0 m I J A B (fl (d + 512 + rwN S 0)) 0 (ENT g d (sealF T (ahM 2 120 (rwN S 0) PH)) (rwN S 0) (rwR S 0 (fun _ => 0))) h) (jX11_extended_31 v G m (nI e) y2 y3)) := by
    intro y2 y3 hy hy3
    unfold jX11_extended_31
    rw [q.wr.r 8 7 rfl (by decide), Option.bind_some, show gLdJ G (m + 7) ((5 : Int32) * nI e + (1 : Int32)) = _ from ldn q 1 (by decide), Option.bind_some, ← hUe, fits_e, Option.bind_some]
    cases c : fitB U 8
    · rw [bI_f, if_pos rfl]
      exact f55 y2 y3 1 hy hy3 (Or.inr ⟨rfl, sr3_f c⟩)
    · rw [bI_t, if_neg (by decide)]
      exact f55 y2 y3 0 hy hy3 (Or.inl ⟨rfl, sr3_t c⟩)
  have f14 : ∀ (y2 : Int32), (y2 = 0 ∧ sr1 ns nb sp = [] ∨ y2 = 1 ∧ sr1 ns nb sp = [(PA, ns, nb)]) → (S = [] → Ok (WG G0 m I J A B d 0 g h) (jX11_extended_14 v G m (nI e) y2)) ∧ (S ≠ [] → Ok (WG G0 m I J A B (fl (d + 512 + rwN S 0)) 0 (ENT g d (sealF T (ahM 2 120 (rwN S 0) PH)) (rwN S 0) (rwR S 0 (fun _ => 0))) h) (jX11_extended_14 v G m (nI e) y2)) := by
    intro y2 hy
    unfold jX11_extended_14
    rw [q.wr.r 7 6 rfl (by decide), Option.bind_some, q.wr.ld 6 ⟨by decide, by decide, rfl, by decide, by decide⟩ rfl rfl (show e < 9 by omega), Option.bind_some, hl]
    by_cases c : ls ≤ 100
    · rw [if_pos ((j100 (by omega)).mpr c)]
      exact f31 y2 0 hy (Or.inl ⟨rfl, if_pos c⟩)
    · rw [if_neg (fun z => c ((j100 (by omega)).mp z))]
      exact f31 y2 1 hy (Or.inr ⟨rfl, if_neg c⟩)
  unfold fX11_extended
  rw [q.wr.ob, Option.bind_some, m_whole q he hs hs2 hnb hsp, Option.bind_some]
  cases c : nfB ns sp
  · rw [bI_f, if_pos rfl]
    refine f14 1 (Or.inr ⟨rfl, ?_⟩)
    unfold sr1
    rw [c]
    rfl
  · rw [bI_t, if_neg (by decide)]
    refine f14 0 (Or.inl ⟨rfl, ?_⟩)
    unfold sr1
    rw [c]
    rfl
end EX
