/-! PURE: long names ahead of an ENTRY, on both sides -/
theorem upd_fa {f k : Nat → Int32} {p n i : Nat} {x : Int32} (h : ¬ (p ≤ i ∧ i < p + n)) : upd (fa f p n k) i x = fa (upd f i x) p n k := by
  funext j
  by_cases q : j = i
  · subst q
    rw [updI_s, fa_n h, updI_s]
  · rw [updI_n _ _ q]
    by_cases q2 : p ≤ j ∧ j < p + n
    · rw [fa_i q2, fa_i q2]
    · rw [fa_n q2, fa_n q2, updI_n _ _ q]
theorem seal_ENT {g f D : Nat → Int32} {p sz T : Nat} : upd (upd (fa (ENT g p f sz D) (p + 148) 6 (oD T 6)) (p + 154) 0) (p + 155) 32 = ENT g p (sealF T f) sz D := by
  unfold ENT
  rw [fa_comm (by omega), fa_comm (f := fa g p 512 f) (by omega), upd_fa (by omega), upd_fa (by omega), upd_fa (by omega), upd_fa (by omega), seal_fa]
theorem ENT_c {g g' f f' D D' : Nat → Int32} {u sz : Nat} (e1 : ∀ j, j < u → g j = g' j) (e2 : ∀ j, j < 512 → f j = f' j) (e3 : ∀ j, j < sz → D j = D' j) : ∀ j, j < fl (u + 512 + sz) → ENT g u f sz D j = ENT g' u f' sz D' j := by
  have hf := fl_le (u + 512 + sz)
  unfold ENT
  refine fa_c (fun j hj q => ?_) (fun _ _ => rfl)
  refine fa_c (N := u + 512 + sz) (fun j hj q => ?_) e3 j (by omega)
  refine fa_c (N := u + 512) (fun j hj q => ?_) e2 j (by omega)
  exact e1 j (by omega)
/-- the HEAD of what is told ahead, ahead of its SUM -/
def ahC (x : Nat) (kd : Int32) (sz : Nat) (l : List Int32) : Nat → Int32 := fa (fa (fa (fa (bhC x kd 420 sz) 0 l.length (fun j => l.getD j 0)) 108 7 (oD 0 7)) 116 7 (oD 0 7)) 136 11 (oD 0 11)
def ahM (x : Nat) (kd : Int32) (sz : Nat) (l : List Int32) : Nat → Int32 := fa (bhM x kd 420 sz) 0 l.length (fun j => l.getD j 0)
theorem ah_e {x : Nat} {kd : Int32} {sz : Nat} {l : List Int32} (hl : l.length ≤ 100) : ∀ j, j < 512 → ¬ (148 ≤ j ∧ j < 156) → ahC x kd sz l j = ahM x kd sz l j := by
  intro j hj hq
  unfold ahC ahM
  by_cases c1 : j < 100
  · rw [fa_n (by omega), fa_n (by omega), fa_n (by omega)]
    by_cases c : 0 ≤ j ∧ j < 0 + l.length
    · rw [fa_i c, fa_i c]
    · rw [fa_n c, fa_n c, bhC_0 (by omega) (by omega) (by omega) (by omega)]
      unfold bhM
      rw [mgF_n (by omega), updI_n _ _ (by omega), fa_n (by omega), fa_n (by omega), fa_n (by omega), fa_n (by omega), fa_n (by omega)]
  rw [fa_n (u := 0) (f := bhM x kd 420 sz) (by omega)]
  by_cases c2 : j < 108
  · rw [fa_n (by omega), fa_n (by omega), fa_n (by omega), fa_n (by omega)]
    unfold bhC bhM
    rw [mgF_n (by omega), mgF_n (by omega), updI_n _ _ (by omega), updI_n _ _ (by omega), fa_n (u := 124) (n := 11) (by omega), fa_n (u := 136) (by omega), fa_n (u := 124) (by omega), fa_n (u := 116) (by omega), fa_n (u := 108) (by omega)]
    exact oF_e (k := 420) (n := 8) (p := 100) (by omega) rfl
  by_cases c3 : j < 116
  · rw [fa_n (by omega), fa_n (by omega)]
    unfold bhM
    rw [mgF_n (by omega), updI_n _ _ (by omega), fa_n (u := 136) (by omega), fa_n (u := 124) (by omega), fa_n (u := 116) (by omega)]
    refine oF_e (k := 0) (n := 8) (p := 108) (by omega) ?_
    rw [fa_n (by omega), bhC_0 (by omega) (by omega) (by omega) (by omega)]
  by_cases c4 : j < 124
  · rw [fa_n (by omega)]
    unfold bhM
    rw [mgF_n (by omega), updI_n _ _ (by omega), fa_n (u := 136) (by omega), fa_n (u := 124) (by omega)]
    refine oF_e (k := 0) (n := 8) (p := 116) (by omega) ?_
    rw [fa_n (by omega), fa_n (by omega), bhC_0 (by omega) (by omega) (by omega) (by omega)]
  by_cases c5 : j < 136
  · rw [fa_n (by omega), fa_n (by omega), fa_n (by omega), fa_n (by omega)]
    unfold bhC bhM
    rw [mgF_n (by omega), mgF_n (by omega), updI_n _ _ (by omega), updI_n _ _ (by omega), fa_n (u := 136) (by omega)]
    exact oF_e (k := sz) (n := 12) (p := 124) (by omega) (by rw [fa_n (by omega)])
  by_cases c6 : j < 148
  · unfold bhM
    rw [mgF_n (by omega), updI_n _ _ (by omega)]
    refine oF_e (k := 0) (n := 12) (p := 136) (by omega) ?_
    rw [fa_n (by omega), fa_n (by omega), fa_n (by omega), bhC_0 (by omega) (by omega) (by omega) (by omega)]
  rw [fa_n (by omega), fa_n (by omega), fa_n (by omega), fa_n (by omega)]
  unfold bhC bhM
  by_cases c7 : j = 156
  · subst c7
    rw [mgF_n (by omega), mgF_n (by omega), updI_s, updI_s]
  · by_cases q : 257 ≤ j ∧ j < 265
    · refine mgF_c q ?_
      rw [updI_n _ _ c7, updI_n _ _ c7, fa_n (by omega), fa_n (by omega), fa_n (by omega), fa_n (by omega), fa_n (by omega), fa_n (by omega), fa_n (by omega)]
    · rw [mgF_n q, mgF_n q, updI_n _ _ c7, updI_n _ _ c7, fa_n (by omega), fa_n (by omega), fa_n (by omega), fa_n (by omega), fa_n (by omega), fa_n (by omega), fa_n (by omega)]
theorem ahM_b {x : Nat} {kd : Int32} {sz : Nat} {l : List Int32} (hkd : kd &&& 255 = kd) (hl : ∀ j, j < l.length → l.getD j 0 &&& 255 = l.getD j 0) : By (ahM x kd sz l) := by
  have h0 : By (bhM x kd 420 sz) := By.mg x (((((((By.z).fa (fun j _ => oF_b _ _ _)).fa (fun j _ => oF_b _ _ _)).fa (fun j _ => oF_b _ _ _)).fa (fun j _ => oF_b _ _ _)).fa (fun j _ => oF_b _ _ _)).up hkd)
  exact h0.fa hl
def LL : List Int32 := [46, 47, 46, 47, 64, 76, 111, 110, 103, 76, 105, 110, 107]
def PH : List Int32 := [80, 97, 120, 72, 101, 97, 100, 101, 114]
/-- a long name's DATA: its bytes and a 0 -/
def lD (n : Nat) (nb : Nat → Int32) (j : Nat) : Int32 := if j = n then 0 else nb j
section LO
variable {v : Nat → Nat} {G0 G G' : gH} {m : Nat} {I : Nat → Int32} {J : Int64} {A : Nat → Nat → Int32} {B : Nat → Nat → Int64} {d w a cap u wv : Nat} {g h : Nat → Int32} {x1 x2 : Value}
theorem k_ahead {lim s x sz T : Nat} {kd : Int32} {l : List Int32} (hne : wv ≠ a) (o : G.2.1 wv = some (2, [.ref a, x1, x2])) (rb : RowB G a cap u g) (mg : Mgs v a G) (hS : StrX lim G s l) (hlim : lim ≤ a) (hl : l.length ≤ 100) (hx : x < 4) (hsz : sz < 2 ^ 31) (hkd : kd &&& 255 = kd) (hu : u + 512 ≤ cap) (hu2 : u < 2 ^ 28) (hT : smI (ahC x kd sz l) 512 = nI T) (hT2 : T < 2 ^ 31) : ∃ G', fX2_appendAheadHead v G wv kd s (nI sz) (nI x) = some G' ∧ Fr2 G G' a ∧ RowB G' a cap (u + 512) (fa g u 512 (sealF T (ahC x kd sz l))) := by
  obtain ⟨G1, e1, r1, b1⟩ := k_beginHead (v := v) (k := 420) hne o rb mg hx (by decide) hsz hkd hu (by omega)
  have o1 := r1.ob hne o
  obtain ⟨G2, e2, r2, b2⟩ := rb_setText (v := v) (p := u + 0) b1 hlim (hS.fr r1 hlim) (by omega) (by omega)
  rw [fa_fa (by omega)] at b2
  have o2 := r2.ob hne o1
  obtain ⟨G3, e3, r3, b3⟩ := k_setField (v := v) (p := u + 108) (n := 8) (k := 0) hne o2 b2 (by decide) (by omega) (by decide) (by decide) (by omega)
  rw [show (8 : Nat) - 1 = 7 from rfl, fa_fa (by decide)] at b3
  have o3 := r3.ob hne o2
  obtain ⟨G4, e4, r4, b4⟩ := k_setField (v := v) (p := u + 116) (n := 8) (k := 0) hne o3 b3 (by decide) (by omega) (by decide) (by decide) (by omega)
  rw [show (8 : Nat) - 1 = 7 from rfl, fa_fa (by decide)] at b4
  have o4 := r4.ob hne o3
  obtain ⟨G5, e5, r5, b5⟩ := k_setField (v := v) (p := u + 136) (n := 12) (k := 0) hne o4 b4 (by decide) (by omega) (by decide) (by decide) (by omega)
  rw [show (12 : Nat) - 1 = 11 from rfl, fa_fa (by decide)] at b5
  have o5 := r5.ob hne o4
  obtain ⟨G6, e6, r6, b6⟩ := k_seal (v := v) (p := u) (T := T) hne o5 b5 (by omega) (by omega) (sm_fa.trans hT) hT2
  rw [seal_fa] at b6
  refine ⟨G6, ?_, ((((r1.tr r2).tr r3).tr r4).tr r5).tr r6, b6⟩
  unfold fX2_appendAheadHead
  rw [gOb_at o, Option.bind_some, show (420 : Int64) = lN 420 from rfl, e1, Option.bind_some, gR_at o1 (k := 0) (x := a) rfl, Option.bind_some, show nI u + (0 : Int32) = nI (u + 0) from nI_add u 0, e2, Option.bind_some, show nI u + (108 : Int32) = nI (u + 108) from nI_add u 108, show (8 : Int32) = nI 8 from rfl, show (0 : Int64) = lN 0 from rfl, e3, Option.bind_some, show nI u + (116 : Int32) = nI (u + 116) from nI_add u 116, e4, Option.bind_some, show nI u + (136 : Int32) = nI (u + 136) from nI_add u 136, show (12 : Int32) = nI 12 from rfl, e5, Option.bind_some, e6, Option.bind_some]
theorem k_long {lim c n T : Nat} {kd : Int32} {nb : Nat → Int32} (hne : wv ≠ a) (hca : c ≠ a) (o : G.2.1 wv = some (2, [.ref a, x1, x2])) (rb : RowB G a cap u g) (rn : RowB G c 400 n nb) (mg : Mgs v a G) (hS : StrX lim G (v 12) LL) (hlim : lim ≤ a) (hkd : kd &&& 255 = kd) (hn : 100 < n) (hu : fl (u + 512 + (n + 1)) ≤ cap) (hu2 : u < 2 ^ 28) (hT : smI (ahC 3 kd (n + 1) LL) 512 = nI T) (hT2 : T < 2 ^ 31) : ∃ G', fX2_appendLong v G wv kd c = some G' ∧ Fr2 G G' a ∧ RowB G' a cap (fl (u + 512 + (n + 1))) (ENT g u (sealF T (ahC 3 kd (n + 1) LL)) (n + 1) (lD n nb)) := by
  have hf := fl_le (u + 512 + (n + 1))
  have hn4 := rn.le
  obtain ⟨G1, e1, r1, b1⟩ := k_ahead (v := v) (x := 3) hne o rb mg hS hlim (by decide) (by decide) (sz := n + 1) (by omega) hkd (by omega) hu2 hT hT2
  have o1 := r1.ob hne o
  have rn1 := rn.fr r1 hca
  obtain ⟨G2, e2, r2, b2⟩ := rb_addPart (v := v) (j := 0) (e := n) hca b1 rn1 (by omega) (Nat.le_refl _) (by omega)
  have o2 := r2.ob hne o1
  obtain ⟨G3, e3, r3, b3⟩ := rb_add (v := v) b2 (by omega) 0
  have o3 := r3.ob hne o2
  rw [Nat.sub_zero] at b3
  obtain ⟨G4, e4, r4, b4⟩ := k_fillBlock (v := v) hne o3 b3 (by rw [show u + 512 + n + 1 = u + 512 + (n + 1) by omega]; exact hu) (by omega)
  rw [show u + 512 + n + 1 = u + 512 + (n + 1) by omega] at b4
  refine ⟨G4, ?_, ((r1.tr r2).tr r3).tr r4, b4.c (fun j hj => ?_)⟩
  · unfold fX2_appendLong
    have c1 : ¬ nI n ≤ (100 : Int32) := fun z => by
      have := (j100 (by omega)).mp z
      omega
    rw [gOb_at o, Option.bind_some, rb_count rn, Option.bind_some, if_neg c1, Option.bind_some, nI_1, show (3 : Int32) = nI 3 from rfl, e1, Option.bind_some, gR_at o1 (k := 0) (x := a) rfl, Option.bind_some, rb_count rn1, Option.bind_some, show (0 : Int32) = nI 0 from rfl, e2, Option.bind_some, gR_at o2 (k := 0) (x := a) rfl, Option.bind_some, show nI 0 = (0 : Int32) from rfl, e3, Option.bind_some, e4, Option.bind_some]
  · unfold ENT
    refine fa_c (N := fl (u + 512 + (n + 1))) (fun j hj q => ?_) (fun _ _ => rfl) j hj
    by_cases z : j = u + 512 + n
    · subst z
      rw [updI_s, fa_i (by omega)]
      unfold lD
      rw [if_pos (by omega)]
      decide
    · rw [updI_n _ _ z]
      by_cases y : u + 512 ≤ j ∧ j < u + 512 + n
      · rw [fa_i y, fa_i (by omega), Nat.zero_add]
        unfold lD
        rw [if_neg (by omega)]
      · rw [fa_n y, fa_n (n := n + 1) (u := u + 512) (by omega)]
end LO
/-! PURE: long names ahead of an ENTRY, the reference -/
theorem ll_8 : ∀ i, i < 8 → (((3327929430127177582 : Int64).toUInt64 >>> (((56 : Int32) - ((8 : Int32) * nI i)).toInt64.toUInt64 &&& Int64.toUInt64 63)).toInt64 &&& (255 : Int64)).toInt32 = LL.getD i 0 := by decide +kernel
theorem ll_5 : ∀ i, i < 5 → (((443663609451 : Int64).toUInt64 >>> (((32 : Int32) - ((8 : Int32) * nI i)).toInt64.toUInt64 &&& Int64.toUInt64 63)).toInt64 &&& (255 : Int64)).toInt32 = LL.getD (8 + i) 0 := by decide +kernel
theorem ph_8 : ∀ i, i < 8 → (((5792042848109028453 : Int64).toUInt64 >>> (((56 : Int32) - ((8 : Int32) * nI i)).toInt64.toUInt64 &&& Int64.toUInt64 63)).toInt64 &&& (255 : Int64)).toInt32 = PH.getD i 0 := by decide +kernel
theorem fa_grow {f k : Nat → Int32} {c : Nat} : upd (fa f 0 c k) c (k c) = fa f 0 (c + 1) k := by
  funext j
  by_cases z : j = c
  · subst z
    rw [updI_s, fa_i (by omega), Nat.sub_zero]
  · rw [updI_n _ _ z]
    by_cases y : 0 ≤ j ∧ j < 0 + c
    · rw [fa_i y, fa_i (by omega)]
    · rw [fa_n y, fa_n (by omega)]
section LM2
variable {v : Nat → Nat} {G0 G G' : gH} {m : Nat} {I : Nat → Int32} {J : Int64} {A : Nat → Nat → Int32} {B : Nat → Nat → Int64} {d w : Nat} {g h : Nat → Int32}
/-- draft[drafted++] = an int of another array, which is loaded in between -/
theorem WG.app2 (q : WG G0 m I J A B d w g h G) {c j : Nat} {i : Int32} {α : Type} {Q : α → Prop} {K : gH → Option α} (hc : c = 3 ∨ c = 5) (hi : i = nI j) (hj : j < 3600) (hd : d < 120000) (hk : ∀ G', WG G0 m I J A B (d + 1) w (upd g d (A c j)) h G' → Ok Q (K G')) : Ok Q (Option.bind (gPut G m 10 14 (.int (nI d + 1))) fun G1 => Option.bind (gLdI G1 .int (m + c) i) fun x => Option.bind (gSt G1 .int (m + 11) (nI d) (.int x)) K) := by
  obtain ⟨I', A', h1, h2, h3, h4, h5, h6, h7, h8⟩ := q
  obtain ⟨G1, e1, k1, f1⟩ := h1.pi 14 (nI d + 1) rfl
  obtain ⟨G2, e2, k2, f2⟩ := k1.st 11 (ty := .int) (j := d) (A c j) ⟨by decide, by decide, rfl⟩ rfl hd
  have l1 : gLdI G1 .int (m + c) i = some (A c j) := by
    rw [hi, ← h3 c (by omega) (by omega)]
    rcases hc with rfl | rfl
    · exact k1.ld 3 (ty := .int) ⟨by decide, by decide, rfl⟩ rfl hj
    · exact k1.ld 5 (ty := .int) ⟨by decide, by decide, rfl⟩ rfl hj
  refine Ok.e e1 (Ok.e l1 (Ok.e e2 (hk G2 ⟨_, _, k2, fun k k14 k16 => ?_, fun c c1 c2 => ?_, ?_, ?_, (h6.tr f1).tr f2, fun z hz => ?_, fun z hz => ?_⟩)))
  · rw [updI_n _ _ k14]; exact h2 k k14 k16
  · rw [← h3 c c1 c2]
    funext q
    exact upA_n (fun z => c1 z.1)
  · rw [updI_s, nI_1]
  · rw [updI_n _ _ (by decide)]; exact h5
  · by_cases e1 : z = d
    · subst e1
      rw [upA_s, updI_s]
    · rw [upA_n (fun q => e1 q.2), updI_n _ _ e1]
      exact h7 z (by omega)
  · rw [upA_n (by omega)]
    exact h8 z hz
theorem g_long {e c n T : Nat} {kd : Int32} {nb : Nat → Int32} (q : WG G0 m I J A B d w g h G) (he : e < 8) (hc : c = 3 ∨ c = 5) (hnb : ∀ j, j < n → A c (400 * e + j) = nb j) (hn : n ≤ 400) (hd : d + 2000 ≤ 120000) (hT : smI (ahM 3 kd (n + 1) LL) 512 = nI T) (hT2 : T < 2 ^ 31) : Ok (WG G0 m I J A B (fl (d + 512 + (n + 1))) w (ENT g d (sealF T (ahM 3 kd (n + 1) LL)) (n + 1) (lD n nb)) h) (fX11_long_ v G m kd (m + c) (nI (400 * e)) (nI n)) := by
  have hfl := fl_le (d + 512 + (n + 1))
  -- the bytes, a 0, the BLOCK filled, the SUM
  have l107 : ∀ (r i u : Nat) (G : gH), i + r = n → r < u → WG G0 m I J A B (d + 512 + i) w (fa (fa g d 512 (ahM 3 kd (n + 1) LL)) (d + 512) i nb) h G → Ok (WG G0 m I J A B (fl (d + 512 + (n + 1))) w (ENT g d (sealF T (ahM 3 kd (n + 1) LL)) (n + 1) (lD n nb)) h) (lX11_long__107 v u G m (m + c) (nI (400 * e)) (nI n) (nI d) (nI i)) := by
    intro r
    induction r with
    | zero =>
      intro i u G hi hu q
      obtain ⟨u, rfl⟩ : ∃ u', u = u' + 1 := ⟨u - 1, by omega⟩
      obtain rfl : i = n := by omega
      show Ok _ (bX11_long__107 v (lX11_long__107 v u) G m (m + c) (nI (400 * e)) (nI i) (nI d) (nI i))
      unfold bX11_long__107
      refine Ok.i (fun _ => ?_) (fun z => absurd (nI_le (Nat.le_refl _) (by omega)) z)
      refine Ok.e (q.wr.r 13 11 rfl (by decide)) ?_
      refine Ok.e q.wr.i14 ?_
      refine q.app (by omega) (fun G1 q1 => ?_)
      refine Ok.b (g_fill q1 (by omega)) (fun G2 q2 => ?_)
      rw [show d + 512 + i + 1 = d + 512 + (i + 1) by omega] at q2
      have q3 : WG G0 m I J A B (fl (d + 512 + (i + 1))) w (ENT g d (ahM 3 kd (i + 1) LL) (i + 1) (lD i nb)) h G2 := by
        refine q2.c (fun j hj => ?_) (fun _ _ => rfl)
        unfold ENT
        refine fa_c (N := fl (d + 512 + (i + 1))) (fun j hj q => ?_) (fun _ _ => rfl) j hj
        by_cases z : j = d + 512 + i
        · subst z
          rw [updI_s, fa_i (by omega)]
          unfold lD
          rw [if_pos (by omega)]
        · rw [updI_n _ _ z]
          by_cases y : d + 512 ≤ j ∧ j < d + 512 + i
          · rw [fa_i y, fa_i (by omega)]
            unfold lD
            rw [if_neg (by omega)]
          · rw [fa_n y, fa_n (n := i + 1) (u := d + 512) (by omega)]
      refine Ok.b (g_endHead q3 (p := d) (T := T) (by omega) (by omega) ?_ hT2) (fun G3 q4 => ?_)
      · refine Eq.trans (smI_c (fun j hj _ => ?_) 512 (Nat.le_refl _)) hT
        show ENT g d (ahM 3 kd (i + 1) LL) (i + 1) (lD i nb) (d + j) = _
        unfold ENT
        rw [fa_n (by omega), fa_n (by omega), fa_i (by omega), show d + j - d = j by omega]
      · rw [seal_ENT] at q4
        exact Ok.s q4
    | succ r ih =>
      intro i u G hi hu q
      obtain ⟨u, rfl⟩ : ∃ u', u = u' + 1 := ⟨u - 1, by omega⟩
      show Ok _ (bX11_long__107 v (lX11_long__107 v u) G m (m + c) (nI (400 * e)) (nI n) (nI d) (nI i))
      unfold bX11_long__107
      refine Ok.i (fun z => absurd z (nI_ge (by omega) (by omega))) (fun _ => ?_)
      refine Ok.e (q.wr.r 13 11 rfl (by decide)) ?_
      refine Ok.e q.wr.i14 ?_
      refine q.app2 hc (nI_add (400 * e) i) (by omega) (by omega) (fun G1 q1 => ?_)
      refine Ok.e rfl ?_
      rw [nI_1]
      rw [hnb i (by omega)] at q1
      refine ih (i + 1) u G1 (by omega) (by omega) (q1.c (fun j hj => ?_) (fun _ _ => rfl))
      by_cases z : j = d + 512 + i
      · subst z
        rw [updI_s, fa_i (by omega), show d + 512 + i - (d + 512) = i by omega]
      · rw [updI_n _ _ z]
        by_cases y : d + 512 ≤ j ∧ j < d + 512 + i
        · rw [fa_i y, fa_i (by omega)]
        · rw [fa_n y, fa_n (n := i + 1) (u := d + 512) (by omega)]
  have l62 : ∀ (r i u : Nat) (G : gH), i + r = 5 → r < u → WG G0 m I J A B (d + 512) w (fa g d 512 (fa (bhM 3 kd 420 (n + 1)) 0 (8 + i) (fun j => LL.getD j 0))) h G → Ok (WG G0 m I J A B (fl (d + 512 + (n + 1))) w (ENT g d (sealF T (ahM 3 kd (n + 1) LL)) (n + 1) (lD n nb)) h) (lX11_long__62 v u G m (m + c) (nI (400 * e)) (nI n) (nI d) (nI i)) := by
    intro r
    induction r with
    | zero =>
      intro i u G hi hu q
      obtain ⟨u, rfl⟩ : ∃ u', u = u' + 1 := ⟨u - 1, by omega⟩
      obtain rfl : i = 5 := by omega
      show Ok _ (bX11_long__62 v (lX11_long__62 v u) G m (m + c) (nI (400 * e)) (nI n) (nI d) (nI 5))
      unfold bX11_long__62
      refine Ok.i (fun _ => ?_) (fun z => absurd (by decide) z)
      refine l107 n 0 gFu G (by omega) (by unfold gFu; omega) ?_
      rw [fa_0]
      exact q
    | succ r ih =>
      intro i u G hi hu q
      obtain ⟨u, rfl⟩ : ∃ u', u = u' + 1 := ⟨u - 1, by omega⟩
      show Ok _ (bX11_long__62 v (lX11_long__62 v u) G m (m + c) (nI (400 * e)) (nI n) (nI d) (nI i))
      unfold bX11_long__62
      refine Ok.i (fun z => absurd z (show ¬ (5 : Int32) ≤ nI i from nI_ge (b := 5) (by omega) (by decide))) (fun _ => ?_)
      refine Ok.e (q.wr.r 13 11 rfl (by decide)) ?_
      rw [ll_5 i (by omega)]
      refine Ok.b (q.st (j := d + (8 + i)) _ ?_ (by omega) (by omega)) (fun G1 q1 => ?_)
      · rw [show nI d + (8 : Int32) = nI (d + 8) from nI_add d 8, nI_add, Nat.add_assoc]
      rw [fa_upd (by omega), fa_grow] at q1
      refine Ok.e rfl ?_
      rw [nI_1]
      exact ih (i + 1) u G1 (by omega) (by omega) q1
  have l19 : ∀ (r i u : Nat) (G : gH), i + r = 8 → r < u → WG G0 m I J A B (d + 512) w (fa g d 512 (fa (bhM 3 kd 420 (n + 1)) 0 i (fun j => LL.getD j 0))) h G → Ok (WG G0 m I J A B (fl (d + 512 + (n + 1))) w (ENT g d (sealF T (ahM 3 kd (n + 1) LL)) (n + 1) (lD n nb)) h) (lX11_long__19 v u G m (m + c) (nI (400 * e)) (nI n) (nI d) (nI i)) := by
    intro r
    induction r with
    | zero =>
      intro i u G hi hu q
      obtain ⟨u, rfl⟩ : ∃ u', u = u' + 1 := ⟨u - 1, by omega⟩
      obtain rfl : i = 8 := by omega
      show Ok _ (bX11_long__19 v (lX11_long__19 v u) G m (m + c) (nI (400 * e)) (nI n) (nI d) (nI 8))
      unfold bX11_long__19
      refine Ok.i (fun _ => ?_) (fun z => absurd (by decide) z)
      exact l62 5 0 gFu G (by omega) (by unfold gFu; omega) q
    | succ r ih =>
      intro i u G hi hu q
      obtain ⟨u, rfl⟩ : ∃ u', u = u' + 1 := ⟨u - 1, by omega⟩
      show Ok _ (bX11_long__19 v (lX11_long__19 v u) G m (m + c) (nI (400 * e)) (nI n) (nI d) (nI i))
      unfold bX11_long__19
      refine Ok.i (fun z => absurd z (show ¬ (8 : Int32) ≤ nI i from nI_ge (b := 8) (by omega) (by decide))) (fun _ => ?_)
      refine Ok.e (q.wr.r 13 11 rfl (by decide)) ?_
      rw [ll_8 i (by omega)]
      refine Ok.b (q.st (j := d + i) _ (nI_add d i) (by omega) (by omega)) (fun G1 q1 => ?_)
      rw [fa_upd (by omega), fa_grow] at q1
      refine Ok.e rfl ?_
      rw [nI_1]
      exact ih (i + 1) u G1 (by omega) (by omega) q1
  unfold fX11_long_
  refine Ok.e q.wr.ob ?_
  rw [nI_1, nI_l (by omega), show (420 : Int64) = lN 420 from rfl, show (3 : Int32) = nI 3 from rfl]
  refine Ok.b (g_head q (by decide) (by decide) (by omega) (by omega)) (fun r hr => ?_)
  obtain ⟨hr1, q1⟩ := hr
  rw [hr1]
  refine l19 8 0 gFu r.2 (by omega) (by unfold gFu; omega) ?_
  rw [fa_0]
  exact q1
end LM2
