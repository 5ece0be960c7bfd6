/-! PURE: what holds between two calls, with what was found -/
def INV4 (v : Nat → Nat) (G : gH) (b m : Nat) : Prop := ∃ O P I J A B t n ns ls, CAt G b O P ∧ Sta v b G ∧ MAt G m I J A B ∧ Rl O I A t n ns ls ∧ MI I A B n ∧ Rx O A P B n ∧ Ar3 O A I ∧ Kd3 A B n ∧ (∃ fo, FS fo O A P B I) ∧ StrsY v b G
def Sp4 (v : Nat → Nat) (b m : Nat) (G G1 G2 : gH) : Prop := INV4 v G2 b m ∧ (∀ q, q < b → G1.1 q = G.1 q) ∧ ∀ q, q < b → G2.1 q = G.1 q
section ZE
variable {v : Nat → Nat} {G G1 G2 : gH} {b m t n ns ls : Nat} {O O' : Nat → Nat → Int32} {P P' : Nat → Nat → Int64} {I I' : Nat → Int32} {J : Int64} {A A' : Nat → Nat → Int32} {B B' : Nat → Nat → Int64}
theorem FSx.eq (h : ∃ fo, FS fo O A P B I) (hO : ∀ q, 11 ≤ q → q < 266 → O' q = O q) (hP : ∀ q, 11 ≤ q → q < 266 → P' q = P q) (hB : B' 13 = B 13) (a1 : A' 14 = A 14) (a2 : A' 15 = A 15) (hI : I' 19 = I 19) : ∃ fo, FS fo O' A' P' B' I' := by
  obtain ⟨fo, h⟩ := h
  exact ⟨fo, h.eq2 hO hP hB a1 a2 hI⟩
theorem mkSp4 (hm : b + 320 ≤ m) (f1 : Fw G G1 b 320) (f2 : Fw G1 G2 m 23) (c : CAt G1 b O P) (s : Sta v b G) (sx : StrsY v b G) (k : MAt G2 m I J A B) (x : Rx O A P B n) (x3 : Ar3 O A I) (kd : Kd3 A B n) (fs : ∃ fo, FS fo O A P B I) (r : Rl O I A t n ns ls) (i : MI I A B n) : Sp4 v b m G G1 G2 := by
  have k1 : ∀ q, q < b → G1.1 q = G.1 q ∧ G1.2.1 q = G.2.1 q := fun q hq => f1.2 q (Or.inl hq)
  have k2 : ∀ q, q < b + 320 → G2.1 q = G1.1 q ∧ G2.2.1 q = G1.2.1 q := fun q hq => f2.2 q (Or.inl (by omega))
  refine ⟨⟨O, P, I, J, A, B, t, n, ns, ls, c.ag (fun q _ h2 => k2 q h2), (s.ag k1).ag (fun q hq => k2 q (by omega)), k, r, i, x, x3, kd, fs, (sx.ag k1).ag (fun q hq => k2 q (by omega))⟩, fun q hq => (k1 q hq).1, fun q hq => ?_⟩
  rw [(k2 q (by omega)).1, (k1 q hq).1]
theorem rchOut4 {lo hi : Nat} (h : Rch v G b O P lo hi G1) (h1 : 3 ≤ lo) (h2 : hi ≤ 11) : ∃ O' P', CAt G1 b O' P' ∧ (∀ k, k < 3 ∨ 266 ≤ k → O' k = O k) ∧ ((∀ k, 266 ≤ k → O' k = O k) ∧ ∀ k, 266 ≤ k → P' k = P k) ∧ Fw G G1 b 320 ∧ (∀ k, 11 ≤ k → O' k = O k) ∧ ∀ k, 11 ≤ k → P' k = P k := by
  obtain ⟨O', P', a1, a2, a3, -⟩ := h
  exact ⟨O', P', a1, fun k hk => (a2 k (by omega)).1, ⟨fun k hk => (a2 k (by omega)).1, fun k hk => (a2 k (by omega)).2⟩, a3, fun k hk => (a2 k (by omega)).1, fun k hk => (a2 k (by omega)).2⟩
theorem h4_feed (h : INV4 v G b m) (hm : b + 320 ≤ m) (x y z w : Int32) : ∃ r G1 G2, fX10_feed v G b x y z w = some (r, G1) ∧ fX11_feed v G1 m x y z w = some (r, G2) ∧ Sp4 v b m G G1 G2 := by
  obtain ⟨O, P, I, J, A, B, t, n, ns, ls, c, s, k, r, i, rx, a3, kd, fs, sx⟩ := h
  have r0 := r
  obtain ⟨⟨r1, r2, r3⟩, ⟨r4, r5, r6, r7⟩, ⟨r8, r9, r10⟩, ⟨r11, r12, r13⟩⟩ := r
  by_cases q : t + 16 ≤ 512
  · obtain ⟨G1, e1, c1, f1⟩ := (k_feed (v := v) c r4 r6 x y z w).2 q
    obtain ⟨G2, e2, k2, f2⟩ := (m_feed (v := v) (k.fw hm f1) r6 r5 x y z w).2 q
    refine ⟨_, G1, G2, e1, e2, mkSp4 hm f1 f2 c1 s sx k2 (rx.eq (fun q hq => uR_n (by omega) (by omega)) (fun _ _ => rfl) (fun cc c1 _ _ => funext (fun j => if_neg (fun z => absurd z.1 (by omega)))) rfl) (a3.eq (uR_n (by decide) (by decide)) (uR_n (by decide) (by decide)) (funext (fun j => if_neg (fun z => absurd z.1 (by decide)))) (updI_n _ _ (by decide))) (kd.eq (funext (fun j => if_neg (fun z => absurd z.1 (by decide)))) rfl) (FSx.eq fs (fun q q1 q2 => uR_n (by omega) (by omega)) (fun _ _ _ => rfl) rfl (funext (fun j => if_neg (fun z => absurd z.1 (by decide)))) (funext (fun j => if_neg (fun z => absurd z.1 (by decide)))) (updI_n _ _ (by decide))) (t := t + 16) (n := n) (ns := ns) (ls := ls) ⟨⟨?_, ?_, r3⟩, ⟨?_, updI_s _ _ _, q, fun j hj => ?_⟩, ⟨?_, ?_, r10⟩, ⟨?_, ?_, r13⟩⟩ ⟨i.1.eq ?_ ?_ ?_, i.2.1.eq ?_ ?_ ?_ ?_ rfl rfl, i.2.2.1, fun e he => (i.2.2.2 e he).eq ?_ ?_ ?_ (fun _ _ => rfl)⟩⟩
    · rw [uR_n (by decide) (by decide)]; exact r1
    · rw [updI_n _ _ (by decide)]; exact r2
    · rw [uR_s, updI_s]
    · rw [show (2 : Nat) = 1 + 1 from rfl, uR_b]
      by_cases hq : t ≤ j
      · refine (if_pos ⟨rfl, hq, hj⟩).trans ?_
        have := cF_a x y z w (O 2) t (k := j - t) (by omega)
        rw [show t + (j - t) = j by omega] at this
        exact this
      · refine (if_neg (fun z => hq z.2.1)).trans ?_
        rw [cF_n _ _ _ _ _ (by omega)]
        exact r7 j (by omega)
    · rw [uR_n (by omega) (by omega)]; exact r8
    · exact (if_neg (fun z => absurd z.1 (by decide))).trans r9
    · rw [uR_n (by omega) (by omega)]; exact r11
    · exact (if_neg (fun z => absurd z.1 (by decide))).trans r12
    · exact updI_n _ _ (by decide)
    · exact updI_n _ _ (by decide)
    · exact updI_n _ _ (by decide)
    · exact updI_n _ _ (by decide)
    · exact updI_n _ _ (by decide)
    · funext j; exact if_neg (fun z => absurd z.1 (by decide))
    · funext j; exact if_neg (fun z => absurd z.1 (by decide))
    · exact if_neg (fun z => absurd z.1 (by decide))
    · exact if_neg (fun z => absurd z.1 (by decide))
    · exact if_neg (fun z => absurd z.1 (by decide))
  · exact ⟨_, G, G, (k_feed (v := v) c r4 r6 x y z w).1 (by omega), (m_feed (v := v) k r6 r5 x y z w).1 (by omega), mkSp4 hm Fw.rf Fw.rf c s sx k rx a3 kd fs r0 i⟩
theorem h4_cut (h : INV4 v G b m) (hm : b + 320 ≤ m) (x : Int32) : ∃ r G1 G2, fX10_cut v G b x = some (r, G1) ∧ fX11_cut v G1 m x = some (r, G2) ∧ Sp4 v b m G G1 G2 := by
  obtain ⟨O, P, I, J, A, B, t, n, ns, ls, c, s, k, r, i, rx, a3, kd, fs, sx⟩ := h
  obtain ⟨⟨r1, r2, r3⟩, ⟨r4, r5, r6, r7⟩, ⟨r8, r9, r10⟩, ⟨r11, r12, r13⟩⟩ := r
  obtain ⟨G1, u, e1, c1, hu, hu2, f1⟩ := k_cut (v := v) c r4 r6 x
  obtain ⟨G2, e2, k2, f2⟩ := m_cut (v := v) (k.fw hm f1) r5 x
  have hut : u ≤ t := by
    by_cases q : 0 ≤ x ∧ x ≤ nI t
    · rw [if_pos q] at hu
      rw [← hu] at q
      exact (nI_leI (by omega) (by omega)).mp q.2
    · rw [if_neg q] at hu
      have := (nI_eq (by omega) (by omega)).mp hu
      omega
  have hI : (if 0 ≤ x ∧ x ≤ nI t then upd I 1 x else I) = upd I 1 (nI u) := by
    by_cases q : 0 ≤ x ∧ x ≤ nI t
    · rw [if_pos q, hu, if_pos q]
    · rw [if_neg q, hu, if_neg q]
      funext j
      unfold upd
      by_cases hj : j = 1
      · rw [if_pos hj, hj, r5]
      · rw [if_neg hj]
  rw [hI] at k2
  refine ⟨_, G1, G2, e1, e2, mkSp4 hm f1 f2 c1 s sx k2 (rx.eq (fun q hq => uR_n (by omega) (by omega)) (fun _ _ => rfl) (fun _ _ _ _ => rfl) rfl) (a3.eq (uR_n (by decide) (by decide)) (uR_n (by decide) (by decide)) rfl (updI_n _ _ (by decide))) kd (FSx.eq fs (fun q q1 q2 => uR_n (by omega) (by omega)) (fun _ _ _ => rfl) rfl rfl rfl (updI_n _ _ (by decide))) (t := u) (n := n) (ns := ns) (ls := ls) ⟨⟨?_, ?_, r3⟩, ⟨?_, updI_s _ _ _, hu2, fun j hj => ?_⟩, ⟨?_, r9, r10⟩, ⟨?_, r12, r13⟩⟩ ⟨i.1.eq (updI_n _ _ (by decide)) (updI_n _ _ (by decide)) (updI_n _ _ (by decide)), i.2.1.eq (updI_n _ _ (by decide)) (updI_n _ _ (by decide)) rfl rfl rfl rfl, i.2.2⟩⟩
  · rw [uR_n (by decide) (by decide)]; exact r1
  · rw [updI_n _ _ (by decide)]; exact r2
  · rw [uR_s, updI_s]
  · rw [show (2 : Nat) = 1 + 1 from rfl, uR_b]
    exact r7 j (by omega)
  · rw [uR_n (by omega) (by omega)]; exact r8
  · rw [uR_n (by omega) (by omega)]; exact r11
theorem h4_name (h : INV4 v G b m) (hm : b + 320 ≤ m) (y : Int32) : ∃ r G1 G2, fX10_name v G b y = some (r, G1) ∧ fX11_name v G1 m y = some (r, G2) ∧ Sp4 v b m G G1 G2 := by
  obtain ⟨O, P, I, J, A, B, t, n, ns, ls, c, s, k, r, i, rx, a3, kd, fs, sx⟩ := h
  have r0 := r
  obtain ⟨⟨r1, r2, r3⟩, ⟨r4, r5, r6, r7⟩, ⟨r8, r9, r10⟩, ⟨r11, r12, r13⟩⟩ := r
  have hq : nmB A t ↔ (0 < t ∧ t ≤ 400 ∧ ∀ j, j < t → O 2 j &&& 255 ≠ 0) := by
    unfold nmB
    constructor
    · intro q
      exact ⟨q.1, q.2.1, fun j hj => by rw [← r7 j hj]; exact q.2.2 j hj⟩
    · intro q
      exact ⟨q.1, q.2.1, fun j hj => by rw [r7 j hj]; exact q.2.2 j hj⟩
  by_cases q : nmB A t
  · obtain ⟨G1, kk, f, e1, hk, c1, f1, hf⟩ := (k_name (v := v) c r1 r3 r4 r6 y).2 (hq.mp q)
    obtain ⟨G2, e2, k2, f2⟩ := (m_name (v := v) (k.fw hm f1) r5 r6 y).2 q
    have i1 : ArI (upd I 1 0) := i.1.eq (updI_n _ _ (by decide)) (updI_n _ _ (by decide)) (updI_n _ _ (by decide))
    have key : ∀ cc, (cc = 3 ∨ cc = 5) → MI (upd I 1 0) (mNm A cc t) B n := by
      intro cc hc
      refine ⟨i1, i.2.1.eq (updI_n _ _ (by decide)) (updI_n _ _ (by decide)) ?_ ?_ rfl rfl, i.2.2.1, fun e he => (i.2.2.2 e he).eq ?_ ?_ ?_ (fun _ _ => rfl)⟩
      · funext j
        exact mNm_o (by omega) (by omega)
      · funext j
        exact mNm_o (by omega) (by omega)
      · exact mNm_o (by omega) (by omega)
      · exact mNm_o (by omega) (by omega)
      · exact mNm_o (by omega) (by omega)
    by_cases hy : y = 0
    · rw [if_pos hy] at hk k2
      subst hk
      refine ⟨_, G1, G2, e1, e2, mkSp4 hm f1 f2 c1 s sx k2 (rx.name r3 q.2.1 (Or.inl ⟨rfl, rfl⟩) r7 hf) (a3.eq ((uR_n (by decide) (by decide)).trans (uR_n (by omega) (by omega))) ((uR_n (by decide) (by decide)).trans (uR_n (by omega) (by omega))) (funext fun j => mNm_o (by omega) (by omega)) (updI_n _ _ (by decide))) (kd.eq (funext fun j => mNm_o (by omega) (by omega)) rfl) (FSx.eq fs (fun q q1 q2 => (uR_n (by omega) (by omega)).trans (uR_n (by omega) (by omega))) (fun _ _ _ => rfl) rfl (funext fun j => mNm_o (by omega) (by omega)) (funext fun j => mNm_o (by omega) (by omega)) (updI_n _ _ (by decide))) (t := 0) (n := n) (ns := t) (ls := ls) ⟨⟨?_, ?_, r3⟩, ⟨?_, updI_s _ _ _, by omega, fun j hj => absurd hj (Nat.not_lt_zero _)⟩, ⟨?_, ?_, q.2.1⟩, ⟨?_, ?_, r13⟩⟩ (key 3 (Or.inl rfl))⟩
      · rw [uR_n (by decide) (by decide), uR_n (by omega) (by omega)]; exact r1
      · rw [updI_n _ _ (by decide)]; exact r2
      · rw [uR_s, updI_s]
      · rw [uR_n (by omega) (by omega), uR_s, updI_s]
      · exact mNm_8
      · rw [uR_n (by omega) (by omega), uR_n (by omega) (by omega)]; exact r11
      · rw [mNm_o (by omega) (by omega)]
        exact r12
    · rw [if_neg hy] at hk k2
      subst hk
      refine ⟨_, G1, G2, e1, e2, mkSp4 hm f1 f2 c1 s sx k2 (rx.name r3 q.2.1 (Or.inr ⟨rfl, rfl⟩) r7 hf) (a3.eq ((uR_n (by decide) (by decide)).trans (uR_n (by omega) (by omega))) ((uR_n (by decide) (by decide)).trans (uR_n (by omega) (by omega))) (funext fun j => mNm_o (by omega) (by omega)) (updI_n _ _ (by decide))) (kd.eq (funext fun j => mNm_o (by omega) (by omega)) rfl) (FSx.eq fs (fun q q1 q2 => (uR_n (by omega) (by omega)).trans (uR_n (by omega) (by omega))) (fun _ _ _ => rfl) rfl (funext fun j => mNm_o (by omega) (by omega)) (funext fun j => mNm_o (by omega) (by omega)) (updI_n _ _ (by decide))) (t := 0) (n := n) (ns := ns) (ls := t) ⟨⟨?_, ?_, r3⟩, ⟨?_, updI_s _ _ _, by omega, fun j hj => absurd hj (Nat.not_lt_zero _)⟩, ⟨?_, ?_, r10⟩, ⟨?_, ?_, q.2.1⟩⟩ (key 5 (Or.inr rfl))⟩
      · rw [uR_n (by decide) (by decide), uR_n (by omega) (by omega)]; exact r1
      · rw [updI_n _ _ (by decide)]; exact r2
      · rw [uR_s, updI_s]
      · rw [uR_n (by omega) (by omega), uR_n (by omega) (by omega)]; exact r8
      · rw [mNm_o (by omega) (by omega)]
        exact r9
      · rw [uR_n (by omega) (by omega), uR_s, updI_s]
      · exact mNm_8
  · exact ⟨_, G, G, (k_name (v := v) c r1 r3 r4 r6 y).1 (fun z => q (hq.mpr z)), (m_name (v := v) k r5 r6 y).1 q, mkSp4 hm Fw.rf Fw.rf c s sx k rx a3 kd fs r0 i⟩
theorem h4_number (h : INV4 v G b m) (hm : b + 320 ≤ m) (a : Int32) (x : Int64) : ∃ r G1 G2, fX10_number v G b a x = some (r, G1) ∧ fX11_number v G1 m a x = some (r, G2) ∧ Sp4 v b m G G1 G2 := by
  obtain ⟨O, P, I, J, A, B, t, n, ns, ls, c, s, k, r, i, rx, a3, kd, fs, sx⟩ := h
  obtain ⟨G1, P1, e1, c1, pp1, pp2, f1⟩ := k_number (v := v) c s r.1.1 r.1.2.2 a x
  obtain ⟨G2, e2, k2, f2⟩ := m_number (v := v) (k.fw hm f1) a x
  have bN : (if nOk a x then upB B 7 (40 + a.toInt.toNat) x else B) 13 = B 13 := by
    by_cases z : nOk a x = true
    · rw [if_pos z]
      funext w
      unfold upB
      rw [if_neg (by omega)]
    · rw [if_neg z]
  refine ⟨_, G1, G2, e1, e2, mkSp4 hm f1 f2 c1 s sx k2 (rx.num r.1.2.2 pp1 pp2) a3 (kd.num r.1.2.2) (FSx.eq fs (fun _ _ _ => rfl) (fun q q1 q2 => pp1 q (by omega)) bN rfl rfl rfl) r ?_⟩
  by_cases q : nOk a x = true
  · rw [if_pos q]
    obtain ⟨j, hj, rfl, h1, h2⟩ := nOk_i q
    rw [nI_toInt (by omega)]
    show MI I A (upB B 7 (40 + j) x) n
    refine ⟨i.1, i.2.1.eq rfl rfl rfl rfl ?_ ?_, ?_, fun e he => (i.2.2.2 e he).eq rfl rfl rfl (fun w hw => ?_)⟩
    · funext w; unfold upB; rw [if_neg (by omega)]
    · funext w; unfold upB; rw [if_neg (by omega)]
    · obtain ⟨n1, n2, n3, n4⟩ := i.2.2.1
      have u0 : ∀ w, w ≠ 40 + j → upB B 7 (40 + j) x 7 w = B 7 w := fun w hw => by unfold upB; rw [if_neg (fun z => hw z.2)]
      have u1 : upB B 7 (40 + j) x 7 (40 + j) = x := by unfold upB; rw [if_pos ⟨rfl, rfl⟩]
      unfold nb5
      rcases (show j = 0 ∨ j = 1 ∨ j = 2 ∨ j = 3 ∨ j = 4 by omega) with rfl | rfl | rfl | rfl | rfl
      · rw [u0 _ (by decide), u0 _ (by decide), u0 _ (by decide), u0 _ (by decide)]; exact ⟨n1, n2, n3, n4⟩
      · rw [u1, u0 _ (by decide), u0 _ (by decide), u0 _ (by decide)]; exact ⟨⟨h1, h2⟩, n2, n3, n4⟩
      · rw [u1, u0 _ (by decide), u0 _ (by decide), u0 _ (by decide)]; exact ⟨n1, ⟨h1, h2⟩, n3, n4⟩
      · rw [u1, u0 _ (by decide), u0 _ (by decide), u0 _ (by decide)]; exact ⟨n1, n2, ⟨h1, h2⟩, n4⟩
      · rw [u1, u0 _ (by decide), u0 _ (by decide), u0 _ (by decide)]; exact ⟨n1, n2, n3, ⟨h1, h2⟩⟩
    · have := r.1.2.2
      unfold upB
      rw [if_neg (by omega)]
  · rw [if_neg q]
    exact i
theorem h4_entry (h : INV4 v G b m) (hm : b + 320 ≤ m) (ky sz d : Int32) : ∃ r G1 G2, fX10_entry v G b ky sz d = some (r, G1) ∧ fX11_entry v G1 m ky sz d = some (r, G2) ∧ Sp4 v b m G G1 G2 := by
  obtain ⟨O, P, I, J, A, B, t, n, ns, ls, c, s, k, r, i, rx, a3, kd, fs, sx⟩ := h
  have r0 := r
  obtain ⟨⟨r1, r2, r3⟩, ⟨r4, r5, r6, r7⟩, ⟨r8, r9, r10⟩, ⟨r11, r12, r13⟩⟩ := r
  have stay : ∀ x : Int32, ∃ r G1 G2, (some (x, G) : Option (Int32 × gH)) = some (r, G1) ∧ (fun G1 : gH => (some (x, G1) : Option (Int32 × gH))) G1 = some (r, G2) ∧ Fw G G1 b 320 ∧ Sp4 v b m G G1 G2 := fun x => ⟨x, G, G, rfl, rfl, Fw.rf, mkSp4 hm Fw.rf Fw.rf c s sx k rx a3 kd fs r0 i⟩
  have key : ∃ r G1 G2, eT ky sz (some (-1, G)) (fun z => jX10_entry_53 v G b ky sz d (b + (266 + 6 * n)) z) = some (r, G1) ∧ eT ky sz (fun G1 : gH => (some (-1, G1) : Option (Int32 × gH))) (fun z G1 => jX11_entry_76 v G1 m ky sz d z) G1 = some (r, G2) ∧ Fw G G1 b 320 ∧ Sp4 v b m G G1 G2 := by
    by_cases hK : ky = 48 ∨ ky = 49 ∨ ky = 50 ∨ ky = 53
    case neg =>
      unfold eT
      rw [if_neg hK, if_neg hK]
      exact stay (-1)
    have hkd : ky &&& 255 = ky := by
      rcases hK with z | z | z | z <;> rw [z] <;> decide
    refine eT_2 (R := fun (o : Option (Int32 × gH)) (F : gH → Option (Int32 × gH)) => ∃ r G1 G2, o = some (r, G1) ∧ F G1 = some (r, G2) ∧ Fw G G1 b 320 ∧ Sp4 v b m G G1 G2) (stay (-1)) (fun z s4 hs4 hs5 => ?_)
    rw [k_e53 (v := v) c r3 r8 r10 r11 r13]
    by_cases q0 : ns = 0
    · obtain ⟨x, G1, G2, a1, a2, a3, a4⟩ := stay (-2)
      refine ⟨x, G1, G2, by rw [if_pos q0]; exact a1, ?_, a3, a4⟩
      show jX11_entry_76 v G1 m ky sz d z = _
      rw [m_e76 (v := v) (k.fw hm a3) r9 r10 r12 r13, if_pos q0]
      exact a2
    · rw [if_neg q0]
      have e76 : ∀ {G1 : gH}, Fw G G1 b 320 → jX11_entry_76 v G1 m ky sz d z = jX11_entry_105 v G1 m ky sz d (if ls = 0 then 0 else 1) z := fun f1 => by
        rw [m_e76 (v := v) (k.fw hm f1) r9 r10 r12 r13, if_neg q0]
      obtain ⟨w1, w2, w3⟩ := k_e84 (v := v) c r1 r3 ky sz d (if ls = 0 then 0 else 1) z
      by_cases q1 : z = (if ls = 0 then 0 else 1)
      · by_cases q2 : n = 8
        · obtain ⟨x, G1, G2, a1, a2, a3, a4⟩ := stay (-3)
          refine ⟨x, G1, G2, by rw [w2 q1 q2]; exact a1, ?_, a3, a4⟩
          show jX11_entry_76 v G1 m ky sz d z = _
          rw [e76 a3, (m_e105 (v := v) (k.fw hm a3) r2 r3 ky sz d _ z).2.1 q1 q2]
          exact a2
        · have hn : n < 8 := by omega
          obtain ⟨G1, O1, P1, e1, c1, hT, f1⟩ := w3 q1 hn
          obtain ⟨G2, e2, k2, f2⟩ := (m_e105 (v := v) (k.fw hm f1) r2 r3 ky sz d (if ls = 0 then 0 else 1) z).2.2 q1 hn
          have hT0 := hT
          obtain ⟨t1, t2, t3, t4, t5, t6, t7⟩ := hT
          refine ⟨nI n, G1, G2, e1, ?_, f1, mkSp4 hm f1 f2 c1 s sx k2 (rx.ent hn hT0) (a3.eq (t2 3 (by decide) (by omega) (by omega)) (t2 4 (by decide) (by omega) (by omega)) (mEn_o (by decide)) (updI_n _ _ (by decide))) (kd.ent hn hkd) (FSx.eq fs (fun q q1 q2 => t2 q (by omega) (by omega) (by omega)) (fun q q1 q2 => t6 q (by omega)) (mEb_o (by decide)) (mEn_o (by decide)) (mEn_o (by decide)) (updI_n _ _ (by decide))) (t := t) (n := n + 1) (ns := 0) (ls := 0) ⟨⟨t1, updI_s _ _ _, by omega⟩, ⟨?_, ?_, r6, fun j hj => ?_⟩, ⟨t4, mEn_48, by omega⟩, ⟨t5, mEn_68, by omega⟩⟩ ⟨i.1.eq (updI_n _ _ (by decide)) (updI_n _ _ (by decide)) (updI_n _ _ (by decide)), i.2.1.eq (updI_n _ _ (by decide)) (updI_n _ _ (by decide)) (mEn_o (by decide)) (mEn_o (by decide)) (mEb_o (by decide)) (mEb_o (by decide)), mBe_nb, fun e he => ?_⟩⟩
          · show jX11_entry_76 v G1 m ky sz d z = _
            rw [e76 f1]
            exact e2
          · rw [t2 1 (by decide) (by omega) (by omega)]; exact r4
          · rw [updI_n _ _ (by decide)]; exact r5
          · rw [mEn_o (by decide), t2 2 (by decide) (by omega) (by omega)]; exact r7 j hj
          · by_cases q3 : e = n
            · subst q3
              refine ⟨ns, ls, s4, ?_, by omega, r10, ?_, r13, ?_, hs5, ?_⟩
              · rw [mEn_4 hn, if_pos rfl]; exact r9
              · rw [mEn_6 hn, if_pos rfl]; exact r12
              · rw [mEn_8, if_pos rfl]; exact hs4
              · rw [mEb_7 hn (by decide), if_pos rfl, mEb_7 hn (by decide), if_pos rfl, mEb_7 hn (by decide), if_pos rfl, mEb_7 hn (by decide), if_pos rfl]
                exact i.2.2.1
            · refine (i.2.2.2 e (by omega)).eq ?_ ?_ ?_ (fun j hj => ?_)
              · rw [mEn_4 (by omega), if_neg q3]
              · rw [mEn_6 (by omega), if_neg q3]
              · rw [mEn_8, if_neg q3]
              · rw [mEb_7 (by omega) hj, if_neg q3]
      · obtain ⟨x, G1, G2, a1, a2, a3, a4⟩ := stay (-2)
        refine ⟨x, G1, G2, by rw [w1 q1]; exact a1, ?_, a3, a4⟩
        show jX11_entry_76 v G1 m ky sz d z = _
        rw [e76 a3, (m_e105 (v := v) (k.fw hm a3) r2 r3 ky sz d _ z).1 q1]
        exact a2
  obtain ⟨x, G1, G2, e1, e2, f1, sp⟩ := key
  refine ⟨x, G1, G2, ?_, ?_, sp⟩
  · rw [k_entryT (v := v) c r1 r3]
    exact e1
  · rw [m_entryT (v := v) (k.fw hm f1), ← e2, eT_ap]
theorem h4_clear (h : INV4 v G b m) (hm : b + 320 ≤ m) : ∃ r G1 G2, fX10_clear v G b = some (r, G1) ∧ fX11_clear v G1 m = some (r, G2) ∧ Sp4 v b m G G1 G2 := by
  obtain ⟨O, P, I, J, A, B, t, n, ns, ls, c, s, k, r, i, rx, a3, kd, fs, sx⟩ := h
  obtain ⟨⟨r1, r2, r3⟩, ⟨r4, r5, r6, r7⟩, ⟨r8, r9, r10⟩, ⟨r11, r12, r13⟩⟩ := r
  obtain ⟨G1, O1, P1, e1, c1, t1, t2, t3, t4, tp, t5, f1⟩ := k_clear (v := v) c r1
  obtain ⟨G2, e2, k2, f2⟩ := m_clear (v := v) (k.fw hm f1)
  rw [r2] at e2
  refine ⟨_, G1, G2, e1, e2, mkSp4 hm f1 f2 c1 s sx k2 (Rx.clr t3 t4 t5) (a3.eq (t2 3 (by decide) (by omega)) (t2 4 (by decide) (by omega)) (funext fun j => by unfold upA; rw [if_neg (by omega), if_neg (by omega)]) (updI_n _ _ (by decide))) (Kd3.clr (A := A)) (FSx.eq fs (fun q q1 q2 => t2 q (by omega) (by omega)) (fun q q1 q2 => tp q (by omega)) (mBe_o (by decide)) (funext fun j => by unfold upA; rw [if_neg (by omega), if_neg (by omega)]) (funext fun j => by unfold upA; rw [if_neg (by omega), if_neg (by omega)]) (updI_n _ _ (by decide))) (t := t) (n := 0) (ns := 0) (ls := 0) ⟨⟨t1, updI_s _ _ _, by omega⟩, ⟨?_, ?_, r6, fun j hj => ?_⟩, ⟨t3, ?_, by omega⟩, ⟨t4, ?_, by omega⟩⟩ ⟨i.1.eq (updI_n _ _ (by decide)) (updI_n _ _ (by decide)) (updI_n _ _ (by decide)), i.2.1.eq (updI_n _ _ (by decide)) (updI_n _ _ (by decide)) ?_ ?_ (mBe_o (by decide)) (mBe_o (by decide)), mBe_nb, fun e he => absurd he (Nat.not_lt_zero _)⟩⟩
  · rw [t2 1 (by decide) (by omega)]; exact r4
  · rw [updI_n _ _ (by decide)]; exact r5
  · rw [t2 2 (by decide) (by omega)]
    unfold upA
    rw [if_neg (by omega), if_neg (by omega)]
    exact r7 j hj
  · unfold upA
    rw [if_neg (by omega), if_pos ⟨rfl, rfl⟩]
    rfl
  · unfold upA
    rw [if_pos ⟨rfl, rfl⟩]
    rfl
  · funext j; unfold upA; rw [if_neg (by omega), if_neg (by omega)]
  · funext j; unfold upA; rw [if_neg (by omega), if_neg (by omega)]
theorem h4_write (h : INV4 v G b m) (hm : b + 320 ≤ m) (x y : Int32) : ∃ r G1 G2, fX10_write v G b x y = some (r, G1) ∧ fX11_write v G1 m x y = some (r, G2) ∧ Sp4 v b m G G1 G2 := by
  obtain ⟨O, P, I, J, A, B, t, n, ns, ls, c, s, k, r, i, rx, a3, kd, fs, sx⟩ := h
  obtain ⟨ra, Ga, Gb, ea, eb, hA⟩ := a_write (v := v) hm c s k r i rx a3 kd sx.1 x y
  obtain ⟨⟨r1, G1⟩, e1, hR⟩ := p_write (Rch.rf c s) r.1.1 r.1.2.2 x y
  obtain ⟨rfl, rfl⟩ := Prod.mk.inj (Option.some.inj (ea.symm.trans e1))
  obtain ⟨O', P', c1, o1, o2, f1, o5, o6⟩ := rchOut4 hR (by decide) (by decide)
  obtain ⟨⟨len, l1, l2⟩, ⟨d, d1⟩, w1⟩ := i.1
  obtain ⟨⟨r2, G2⟩, e2, I', A', len', k2, i2, a2, l3, l4, w2, d2, f2⟩ := m_write (v := v) (k.fw hm f1) r.1.2.1 r.1.2.2 i.2.2.2 l2 l1 w1 d1 x y
  obtain ⟨er, rfl⟩ := Prod.mk.inj (Option.some.inj (eb.symm.trans e2))
  exact ⟨ra, Ga, Gb, ea, eb, mkSp4 hm f1 f2 c1 s sx k2 (rx.eq o2.1 o2.2 (fun cc c1 c2 c3 => a2 cc (by omega) (by omega) (by omega)) rfl) (Ar3.of c1 k2 hA) (kd.eq (a2 2 (by decide) (by decide) (by decide)) rfl) (FSx.eq fs (fun q q1 _ => o5 q q1) (fun q q1 _ => o6 q q1) rfl (a2 14 (by decide) (by decide) (by decide)) (a2 15 (by decide) (by decide) (by decide)) (i2 19 (by decide) (by decide) (by decide))) (r.eq o1 (i2 1 (by decide) (by decide) (by decide)) (i2 2 (by decide) (by decide) (by decide)) (a2 1 (by decide) (by decide) (by decide)) (a2 4 (by decide) (by decide) (by decide)) (a2 6 (by decide) (by decide) (by decide))) ⟨⟨⟨len', l4, l3⟩, d2, w2⟩, i.2.1.eq (i2 19 (by decide) (by decide) (by decide)) (i2 30 (by decide) (by decide) (by decide)) (a2 17 (by decide) (by decide) (by decide)) (a2 19 (by decide) (by decide) (by decide)) rfl rfl, i.2.2.1, fun e he => (i.2.2.2 e he).eq (congrFun (a2 4 (by decide) (by decide) (by decide)) e) (congrFun (a2 6 (by decide) (by decide) (by decide)) e) (congrFun (a2 8 (by decide) (by decide) (by decide)) e) (fun _ _ => rfl)⟩⟩
theorem h4_trim (h : INV4 v G b m) (hm : b + 320 ≤ m) (x : Int32) : ∃ r G1 G2, fX10_trim v G b x = some (r, G1) ∧ fX11_trim v G1 m x = some (r, G2) ∧ Sp4 v b m G G1 G2 := by
  obtain ⟨O, P, I, J, A, B, t, n, ns, ls, c, s, k, r, i, rx, a3, kd, fs, sx⟩ := h
  obtain ⟨ra, Ga, Gb, ea, eb, hA⟩ := a_trim (v := v) hm c k a3 x
  obtain ⟨⟨r1, G1⟩, e1, hR⟩ := p_trim (Rch.rf c s) x
  obtain ⟨rfl, rfl⟩ := Prod.mk.inj (Option.some.inj (ea.symm.trans e1))
  obtain ⟨O', P', c1, o1, o2, f1, o5, o6⟩ := rchOut4 hR (by decide) (by decide)
  obtain ⟨⟨len, l1, l2⟩, d1, w1⟩ := i.1
  obtain ⟨G2, e2, k2, f2⟩ := m_trim (v := v) (k.fw hm f1) l2 x
  have hI : ∃ u, u ≤ 32768 ∧ (if 0 ≤ x ∧ x ≤ nI len then upd I 12 x else I) = upd I 12 (nI u) := by
    by_cases q : 0 ≤ x ∧ x ≤ nI len
    · obtain ⟨j, hj, rfl⟩ := nI_of (Int32.not_lt.mpr q.1)
      have := (nI_leI hj (by omega)).mp q.2
      exact ⟨j, by omega, if_pos q⟩
    · refine ⟨len, l1, ?_⟩
      rw [if_neg q]
      funext j
      unfold upd
      by_cases hj : j = 12
      · rw [if_pos hj, hj, l2]
      · rw [if_neg hj]
  obtain ⟨u, hu, hI⟩ := hI
  rw [hI] at k2
  obtain ⟨er, rfl⟩ := Prod.mk.inj (Option.some.inj (eb.symm.trans e2))
  exact ⟨ra, Ga, Gb, ea, eb, mkSp4 hm f1 f2 c1 s sx k2 (rx.eq o2.1 o2.2 (fun _ _ _ _ => rfl) rfl) (Ar3.of c1 k2 hA) kd (FSx.eq fs (fun q q1 _ => o5 q q1) (fun q q1 _ => o6 q q1) rfl rfl rfl (updI_n _ _ (by decide))) (r.eq o1 (updI_n _ _ (by decide)) (updI_n _ _ (by decide)) rfl rfl rfl) ⟨⟨⟨u, hu, updI_s _ _ _⟩, by rw [updI_n _ _ (by decide)]; exact d1, by rw [updI_n _ _ (by decide)]; exact w1⟩, i.2.1.eq (updI_n _ _ (by decide)) (updI_n _ _ (by decide)) rfl rfl rfl rfl, i.2.2⟩⟩
theorem h4_poke (h : INV4 v G b m) (hm : b + 320 ≤ m) (x y : Int32) : ∃ r G1 G2, fX10_poke v G b x y = some (r, G1) ∧ fX11_poke v G1 m x y = some (r, G2) ∧ Sp4 v b m G G1 G2 := by
  obtain ⟨O, P, I, J, A, B, t, n, ns, ls, c, s, k, r, i, rx, a3, kd, fs, sx⟩ := h
  obtain ⟨ra, Ga, Gb, ea, eb, hA⟩ := a_poke (v := v) hm c k a3 x y
  obtain ⟨⟨r1, G1⟩, e1, hR⟩ := p_poke (Rch.rf c s) x y
  obtain ⟨rfl, rfl⟩ := Prod.mk.inj (Option.some.inj (ea.symm.trans e1))
  obtain ⟨O', P', c1, o1, o2, f1, o5, o6⟩ := rchOut4 hR (by decide) (by decide)
  obtain ⟨⟨len, l1, l2⟩, d1, w1⟩ := i.1
  obtain ⟨G2, e2, k2, f2⟩ := m_poke (v := v) (k.fw hm f1) l2 l1 x y
  have ha : ∀ c, c ≠ 10 → (if pkOk len x y then upA A 10 x.toInt.toNat (A 10 x.toInt.toNat ^^^ y) else A) c = A c := by
    intro c hc
    by_cases q : pkOk len x y = true
    · rw [if_pos q]
      funext j
      unfold upA
      rw [if_neg (fun z => hc z.1)]
    · rw [if_neg q]
  obtain ⟨er, rfl⟩ := Prod.mk.inj (Option.some.inj (eb.symm.trans e2))
  exact ⟨ra, Ga, Gb, ea, eb, mkSp4 hm f1 f2 c1 s sx k2 (rx.eq o2.1 o2.2 (fun cc c1 c2 c3 => ha cc (by omega)) rfl) (Ar3.of c1 k2 hA) (kd.eq (ha 2 (by decide)) rfl) (FSx.eq fs (fun q q1 _ => o5 q q1) (fun q q1 _ => o6 q q1) rfl (ha 14 (by decide)) (ha 15 (by decide)) rfl) (r.eq o1 rfl rfl (ha 1 (by decide)) (ha 4 (by decide)) (ha 6 (by decide))) ⟨i.1, i.2.1.eq rfl rfl (ha 17 (by decide)) (ha 19 (by decide)) rfl rfl, i.2.2.1, fun e he => (i.2.2.2 e he).eq (congrFun (ha 4 (by decide)) e) (congrFun (ha 6 (by decide)) e) (congrFun (ha 8 (by decide)) e) (fun _ _ => rfl)⟩⟩
theorem h4_sum (h : INV4 v G b m) (hm : b + 320 ≤ m) (x : Int32) : ∃ r G1 G2, fX10_sum v G b x = some (r, G1) ∧ fX11_sum v G1 m x = some (r, G2) ∧ Sp4 v b m G G1 G2 := by
  obtain ⟨O, P, I, J, A, B, t, n, ns, ls, c, s, k, r, i, rx, a3, kd, fs, sx⟩ := h
  obtain ⟨ra, Ga, Gb, ea, eb, hA⟩ := a_sum (v := v) hm c k a3 x
  obtain ⟨⟨r1, G1⟩, e1, hR⟩ := p_sum (Rch.rf c s) x
  obtain ⟨rfl, rfl⟩ := Prod.mk.inj (Option.some.inj (ea.symm.trans e1))
  obtain ⟨O', P', c1, o1, o2, f1, o5, o6⟩ := rchOut4 hR (by decide) (by decide)
  obtain ⟨⟨len, l1, l2⟩, d1, w1⟩ := i.1
  obtain ⟨⟨r2, G2⟩, e2, A', k2, ha, f2⟩ := m_sum (v := v) (k.fw hm f1) l2 l1 x
  obtain ⟨er, rfl⟩ := Prod.mk.inj (Option.some.inj (eb.symm.trans e2))
  exact ⟨ra, Ga, Gb, ea, eb, mkSp4 hm f1 f2 c1 s sx k2 (rx.eq o2.1 o2.2 (fun cc c1 c2 c3 => ha cc (by omega)) rfl) (Ar3.of c1 k2 hA) (kd.eq (ha 2 (by decide)) rfl) (FSx.eq fs (fun q q1 _ => o5 q q1) (fun q q1 _ => o6 q q1) rfl (ha 14 (by decide)) (ha 15 (by decide)) rfl) (r.eq o1 rfl rfl (ha 1 (by decide)) (ha 4 (by decide)) (ha 6 (by decide))) ⟨i.1, i.2.1.eq rfl rfl (ha 17 (by decide)) (ha 19 (by decide)) rfl rfl, i.2.2.1, fun e he => (i.2.2.2 e he).eq (congrFun (ha 4 (by decide)) e) (congrFun (ha 6 (by decide)) e) (congrFun (ha 8 (by decide)) e) (fun _ _ => rfl)⟩⟩
theorem h4_read (h : INV4 v G b m) (hm : b + 320 ≤ m) (x : Int32) : ∃ r G1 G2, fX10_read v G b x = some (r, G1) ∧ fX11_read v G1 m x = some (r, G2) ∧ Sp4 v b m G G1 G2 := by
  obtain ⟨O, P, I, J, A, B, t, n, ns, ls, c, s, k, r, i, rx, a3, kd, fs, sx⟩ := h
  obtain ⟨⟨r1, G1⟩, e1, hR⟩ := p_read (Rch.rf c s) x
  obtain ⟨O', P', c1, o1, o2, f1, o3⟩ := rchOut3 hR (by decide) (by decide)
  obtain ⟨⟨len, l1, l2⟩, d1, w1⟩ := i.1
  obtain ⟨⟨fo, fo1, fo2, fo3⟩, i30, ah⟩ := i.2.1
  obtain ⟨⟨r2, G2⟩, e2, fo', I', J', A', B', k2, q2, q3, q4, q5, q6, q7, q8, q9, -, f2⟩ := d_read (v := v) (G0 := G1) (fo := fo) ⟨I, J, A, B, k.fw hm f1, fun _ _ _ _ _ _ => rfl, fun _ _ => rfl, fun _ _ _ _ => rfl, fo2, fo1, i30, ah, fo3, trivial, Fw.rf⟩ l2 l1 x
  obtain ⟨fo9, Gx, Gy, Ox, Px, Ix, Jx, Ax, Bx, ex, ey, cx, kx, -, -, fsx⟩ := read_r (v := v) s sx c (k.fw hm f1) a3 x
  obtain ⟨er1, eg1⟩ := Prod.mk.inj (Option.some.inj (e1.symm.trans ex))
  obtain ⟨er2, eg2⟩ := Prod.mk.inj (Option.some.inj (e2.symm.trans ey))
  rw [← eg1] at cx
  rw [← eg2] at kx
  have fsN : ∃ fo, FS fo O' A' P' B' I' := ⟨fo9, fsx.uq cx c1 kx k2⟩
  rw [er1] at e1
  rw [er2] at e2
  refine ⟨nI fo9, G1, G2, e1, e2, mkSp4 hm f1 f2 c1 s sx k2 (rx.eq o2.1 o2.2 (fun cc c1 c2 c3 => q3 cc (by omega)) (q4 7 (by decide) (by decide) (by decide))) (a3.eq (o3 3 (by decide)) (o3 4 (by decide)) (q3 10 (by decide)) (q2 12 (by decide) (by decide) (by decide) (by decide) (by decide))) (kd.eq (q3 2 (by decide)) (q4 7 (by decide) (by decide) (by decide))) fsN (r.eq o1 (q2 1 (by decide) (by decide) (by decide) (by decide) (by decide)) (q2 2 (by decide) (by decide) (by decide) (by decide) (by decide)) (q3 1 (by decide)) (q3 4 (by decide)) (q3 6 (by decide))) ⟨i.1.eq (q2 12 (by decide) (by decide) (by decide) (by decide) (by decide)) (q2 14 (by decide) (by decide) (by decide) (by decide) (by decide)) (q2 16 (by decide) (by decide) (by decide) (by decide) (by decide)), ⟨⟨fo', q6, q5, q9⟩, q7, q8⟩, ?_, fun e he => (i.2.2.2 e he).eq (congrFun (q3 4 (by decide)) e) (congrFun (q3 6 (by decide)) e) (congrFun (q3 8 (by decide)) e) (fun j _ => congrFun (q4 7 (by decide) (by decide) (by decide)) _)⟩⟩
  unfold nb5
  rw [q4 7 (by decide) (by decide) (by decide)]
  exact i.2.2.1
theorem h4_octet (h : INV4 v G b m) (x : Int32) : ∃ r, fX10_octet v G b x = some r ∧ fX11_octet v G m x = some r := by
  obtain ⟨O, P, I, J, A, B, t, n, ns, ls, c, s, k, r, i, rx, a3, kd, fs, sx⟩ := h
  exact a_octet (v := v) c k a3 x
theorem h4_told (h : INV4 v G b m) (x : Int32) : ∃ r1 r2, fX10_told v G b x = some r1 ∧ fX11_told v G m x = some r2 := by
  obtain ⟨O, P, I, J, A, B, t, n, ns, ls, c, s, k, r, i, rx, a3, kd, fs, sx⟩ := h
  obtain ⟨x1, e1, -⟩ := p_told (lo := 3) (hi := 11) (Rch.rf c s) x
  exact ⟨x1, _, e1, m_told (v := v) k x⟩
theorem h4_found (h : INV4 v G b m) (x y : Int32) : ∃ r, fX10_found v G b x y = some r ∧ fX11_found v G m x y = some r := by
  obtain ⟨O, P, I, J, A, B, t, n, ns, ls, c, s, k, r, i, rx, a3, kd, ⟨fo, fs⟩, sx⟩ := h
  exact a_found (v := v) c k fs x y
theorem h4_letter (h : INV4 v G b m) (x y z : Int32) : ∃ r, fX10_letter v G b x y z = some r ∧ fX11_letter v G m x y z = some r := by
  obtain ⟨O, P, I, J, A, B, t, n, ns, ls, c, s, k, r, i, rx, a3, kd, ⟨fo, fs⟩, sx⟩ := h
  exact a_letter (v := v) c k fs x y z
theorem h4_best (h : INV4 v G b m) : ∃ r, fX10_best v G b = some r ∧ fX11_best v G m = some r := by
  obtain ⟨O, P, I, J, A, B, t, n, ns, ls, c, s, k, r, i, rx, a3, kd, fs, sx⟩ := h
  obtain ⟨r1, r2, r3⟩ := r.1
  obtain ⟨⟨len, l1, l2⟩, ⟨d, d1⟩, w1⟩ := i.1
  have o := c.tf r1
  have sp : ∀ x, x < 4 → ∃ q, q ≤ n ∧ fX10_firstNotOf v G b (nI x) = some (nI q) ∧ fX11_notOf v G m (nI x) = some (if q = n then -1 else nI q) := by
    intro x hx
    obtain ⟨w, hc, hk⟩ := h_of (v := v) c k i rx r3 hx
    exact i_first c k r1 r2 r3 hc hk
  obtain ⟨q0, a1, a2, a3⟩ := sp 0 (by decide)
  obtain ⟨q1, b1, b2, b3⟩ := sp 1 (by decide)
  have no2 : fX11_notOf v G m (nI 2) = some (-1) := w_notOf2 (v := v) (k.wr d1 w1) r2 r3
  have stepC : ∀ f q, f < 2 → q ≤ n → fX10_firstNotOf v G b (nI f) = some (nI q) → ∀ u, lX10_best_2 v G (u + 1) b (nI f) = if q = n then some (nI f) else lX10_best_2 v G u b (nI (f + 1)) := by
    intro f q hf hq he u
    show bX10_best_2 v G (lX10_best_2 v G u) b (nI f) = _
    unfold bX10_best_2
    rw [if_neg (show ¬ (2 : Int32) ≤ nI f from nI_ge (b := 2) hf (by decide)), he, Option.bind_some, gI_at o (k := 3) (x := nI n) rfl, Option.bind_some, Option.bind_some, nI_1]
    by_cases z : q = n
    · rw [if_pos z, if_pos (by rw [z])]
    · rw [if_neg z, if_neg (fun w => z ((nI_eq (by omega) (by omega)).mp w))]
  have stepM : ∀ f q, q ≤ n → fX11_notOf v G m (nI f) = some (if q = n then -1 else nI q) → ∀ u, lX11_best_2 v G (u + 1) m (nI f) = if q = n then some (nI f) else lX11_best_2 v G u m (nI (f + 1)) := by
    intro f q hq he u
    show bX11_best_2 v G (lX11_best_2 v G u) m (nI f) = _
    unfold bX11_best_2
    rw [he, Option.bind_some, Option.bind_some, nI_1]
    by_cases z : q = n
    · rw [if_pos z, if_pos z, if_pos (by decide)]
    · rw [if_neg z, if_neg z, if_neg (nI_pos (by omega))]
  have eC : fX10_best v G b = lX10_best_2 v G (8589934589 + 1 + 1 + 1) b (nI 0) := by
    unfold fX10_best
    rw [gOb_at o, Option.bind_some]
    rfl
  have eM : fX11_best v G m = lX11_best_2 v G (8589934589 + 1 + 1 + 1) m (nI 0) := by
    unfold fX11_best
    rw [k.ob, Option.bind_some]
    rfl
  rw [eC, eM, stepC 0 q0 (by decide) a1 a2, stepM 0 q0 a1 a3]
  by_cases z0 : q0 = n
  · exact ⟨nI 0, by rw [if_pos z0], by rw [if_pos z0]⟩
  · rw [if_neg z0, if_neg z0, stepC (0 + 1) q1 (by decide) b1 b2, stepM (0 + 1) q1 b1 b3]
    by_cases z1 : q1 = n
    · exact ⟨nI (0 + 1), by rw [if_pos z1], by rw [if_pos z1]⟩
    · rw [if_neg z1, if_neg z1]
      refine ⟨2, ?_, ?_⟩
      · show bX10_best_2 v G (lX10_best_2 v G 8589934589) b (nI 2) = _
        unfold bX10_best_2
        rw [if_pos (by decide)]
      · show bX11_best_2 v G (lX11_best_2 v G 8589934589) m (nI 2) = _
        unfold bX11_best_2
        rw [no2, Option.bind_some, if_pos (by decide)]
        rfl
theorem strsY_new {N s : Nat} (h : E0 N v G s) (hb : b = G.2.2) : StrsY v b G := by
  refine ⟨strs_new h hb, ?_⟩
  subst hb
  obtain ⟨s0, s1, s2, s3, s4, s5, t0, t1, t2, t3, t4, t5, t6, t7, t8, u0, u1, u2, u3, u4, u5, u6, u7, u8, -, hA, hO⟩ := h
  exact ⟨⟨v 30, hO _ _ u0, hA _ _ t0, u0, t0, by decide, by decide⟩, ⟨v 38, hO _ _ u8, hA _ _ t8, u8, t8, by decide, by decide⟩⟩
theorem inv_new4 (hT : Tar0 G b) (hS : Sta v b G) (hX : StrsY v b G) (hM : MAt G m (fun _ => 0) 0 (fun _ _ => 0) mB0) : INV4 v G b m := by
  have ah : AhOk (fun _ _ => 0) mB0 := ⟨fun g _ => ⟨⟨0, by omega, rfl⟩, ⟨0, by omega, rfl⟩⟩, by decide, by decide⟩
  have rx : Rx O0 (fun _ _ => 0) P0 mB0 0 := ⟨fun e he => absurd he (Nat.not_lt_zero _), NmR.z (O0_n (by decide)) rfl, NmR.z (O0_n (by decide)) rfl, fun j hj => by
    have e1 : P0 (266 + 6 * 0 + 5) j = cE5 (fun _ => 0) j := by
      unfold P0
      rw [if_neg (by decide), if_pos (by decide)]
    rw [e1, cE5_at _ hj]
    unfold mB0
    by_cases z : j = 0
    · rw [if_pos z, if_pos (by omega)]
    · rw [if_neg z, if_neg (by omega)]⟩
  exact ⟨O0, P0, fun _ => 0, 0, fun _ _ => 0, mB0, 0, 0, 0, 0, c_new hT, hS, hM, ⟨⟨O0_k (by decide), rfl, by omega⟩, ⟨O0_n (by decide), rfl, by omega, fun j hj => absurd hj (Nat.not_lt_zero _)⟩, ⟨O0_n (by decide), rfl, by omega⟩, ⟨O0_n (by decide), rfl, by omega⟩⟩, ⟨⟨⟨0, by omega, rfl⟩, ⟨0, rfl⟩, rfl⟩, ⟨⟨0, by omega, rfl, fun i hi => absurd hi (Nat.not_lt_zero _)⟩, Or.inl rfl, ah⟩, mB0_nb, fun e he => absurd he (Nat.not_lt_zero _)⟩, rx, ⟨0, by omega, O0_n (by decide), rfl, fun j hj => absurd hj (Nat.not_lt_zero _)⟩, ⟨fun e he => absurd he (Nat.not_lt_zero _), by decide⟩, ⟨0, by decide, O0_n (by decide), rfl, fun i hi => absurd hi (Nat.not_lt_zero _)⟩, hX⟩
end ZE
