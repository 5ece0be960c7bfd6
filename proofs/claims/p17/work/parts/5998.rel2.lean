/-! PURE: each further call keeps what holds between two calls -/
theorem eT_ap {α β : Type} (k s : Int32) (a : β → α) (g : Int32 → β → α) (x : β) : eT k s a g x = eT k s (a x) (fun z => g z x) := by
  unfold eT
  by_cases q : k = 48 ∨ k = 49 ∨ k = 50 ∨ k = 53
  · rw [if_pos q, if_pos q]
    by_cases q1 : s < 0
    · rw [if_pos q1, if_pos q1]
    · rw [if_neg q1, if_neg q1]
      by_cases q2 : s ≤ (if k = 48 then 4000 else 0)
      · rw [if_pos q2, if_pos q2]
      · rw [if_neg q2, if_neg q2]
  · rw [if_neg q, if_neg q]
section ZB
variable {v : Nat → Nat} {G G1 G2 : gH} {b m t n ns ls : Nat} {O : Nat → Nat → Int32} {P : Nat → Nat → Int64} {I : Nat → Int32} {J : Int64} {A : Nat → Nat → Int32} {B : Nat → Nat → Int64}
theorem upA_n {A : Nat → Nat → Int32} {c j k i : Nat} {x : Int32} (h : ¬ (k = c ∧ i = j)) : upA A c j x k i = A k i := if_neg h
theorem upA_s {A : Nat → Nat → Int32} {c j : Nat} {x : Int32} : upA A c j x c j = x := if_pos ⟨rfl, rfl⟩
theorem mCp_n {A : Nat → Nat → Int32} {e k c j : Nat} (h : ¬ ((c = 3 ∨ c = 5) ∧ 400 * e + k ≤ j ∧ j < 400 * e + 400)) : mCp A e k c j = A c j := if_neg h
theorem mCp_s {A : Nat → Nat → Int32} {e k c j : Nat} (h : (c = 3 ∨ c = 5) ∧ 400 * e + k ≤ j ∧ j < 400 * e + 400) : mCp A e k c j = A c (3200 + (j - 400 * e)) := if_pos h
theorem mEn_o {k s d : Int32} {c : Nat} (h : c ≠ 2 ∧ c ≠ 3 ∧ c ≠ 4 ∧ c ≠ 5 ∧ c ≠ 6 ∧ c ≠ 8 ∧ c ≠ 9) : mEn A n k s d c = A c := by
  funext j
  unfold mEn
  rw [upA_n (by omega), upA_n (by omega), mCp_n (by omega), upA_n (by omega), upA_n (by omega), upA_n (by omega), upA_n (by omega), upA_n (by omega)]
theorem mEn_4 {k s d : Int32} {e : Nat} (he : e < 8) : mEn A n k s d 4 e = if e = n then A 4 8 else A 4 e := by
  unfold mEn
  rw [upA_n (by omega), upA_n (by omega), mCp_n (by omega), upA_n (by omega)]
  by_cases h : e = n
  · subst h
    rw [upA_s, if_pos rfl]
  · rw [if_neg h, upA_n (by omega), upA_n (by omega), upA_n (by omega), upA_n (by omega)]
theorem mEn_6 {k s d : Int32} {e : Nat} (he : e < 8) : mEn A n k s d 6 e = if e = n then A 6 8 else A 6 e := by
  unfold mEn
  rw [upA_n (by omega), upA_n (by omega), mCp_n (by omega)]
  by_cases h : e = n
  · subst h
    rw [upA_s, if_pos rfl]
  · rw [if_neg h, upA_n (by omega), upA_n (by omega), upA_n (by omega), upA_n (by omega), upA_n (by omega)]
theorem mEn_8 {k s d : Int32} {e : Nat} : mEn A n k s d 8 e = if e = n then s else A 8 e := by
  unfold mEn
  rw [upA_n (by omega), upA_n (by omega), mCp_n (by omega), upA_n (by omega), upA_n (by omega), upA_n (by omega)]
  by_cases h : e = n
  · subst h
    rw [upA_s, if_pos rfl]
  · rw [if_neg h, upA_n (by omega), upA_n (by omega)]
theorem mEn_48 {k s d : Int32} : mEn A n k s d 4 8 = 0 := by
  unfold mEn
  rw [upA_n (by omega), upA_s]
theorem mEn_68 {k s d : Int32} : mEn A n k s d 6 8 = 0 := by
  unfold mEn
  rw [upA_s]
theorem mBe_o {c : Nat} (h : c ≠ 7) : mBe B c = B c := by
  funext j
  unfold mBe upB
  rw [if_neg (by omega), if_neg (by omega)]
theorem mBe_7 {j : Nat} (h : j < 40) : mBe B 7 j = B 7 j := by
  unfold mBe upB
  rw [if_neg (by omega), if_neg (by omega)]
theorem mBe_nb : nb5 (mBe B) 40 := by
  have k : ∀ j, 41 ≤ j → j < 45 → mBe B 7 j = 0 := fun j h1 h2 => by
    unfold mBe
    rw [if_pos ⟨rfl, h1, h2⟩]
  unfold nb5
  rw [k _ (by decide) (by decide), k _ (by decide) (by decide), k _ (by decide) (by decide), k _ (by decide) (by decide)]
  decide
theorem mEb_o {c : Nat} (h : c ≠ 7) : mEb B n c = B c := by
  unfold mEb
  rw [mBe_o h]
  funext j
  rw [if_neg (by omega)]
theorem mEb_7 {e j : Nat} (he : e < 8) (hj : j < 5) : mEb B n 7 (5 * e + j) = if e = n then B 7 (40 + j) else B 7 (5 * e + j) := by
  unfold mEb
  rw [mBe_7 (by omega)]
  by_cases h : e = n
  · subst h
    rw [if_pos (by omega), if_pos rfl, show 40 + (5 * e + j - 5 * e) = 40 + j by omega]
  · rw [if_neg (by omega), if_neg h]
theorem i_entry (h : INV v G b m) (hm : b + 320 ≤ m) (kd sz d : Int32) : ∃ r G1 G2, fX10_entry v G b kd sz d = some (r, G1) ∧ fX11_entry v G1 m kd sz d = some (r, G2) ∧ Sp v b m G G1 G2 := by
  obtain ⟨O, P, I, J, A, B, t, n, ns, ls, c, s, k, r, i⟩ := h
  have r0 := r
  obtain ⟨⟨r1, r2, r3⟩, ⟨r4, r5, r6, r7⟩, ⟨r8, r9, r10⟩, ⟨r11, r12, r13⟩⟩ := r
  have stay : ∀ x : Int32, ∃ r G1 G2, (some (x, G) : Option (Int32 × gH)) = some (r, G1) ∧ (fun G1 : gH => (some (x, G1) : Option (Int32 × gH))) G1 = some (r, G2) ∧ Fw G G1 b 320 ∧ Sp v b m G G1 G2 := fun x => ⟨x, G, G, rfl, rfl, Fw.rf, mkSp hm Fw.rf Fw.rf c s k r0 i⟩
  have key : ∃ r G1 G2, eT kd sz (some (-1, G)) (fun z => jX10_entry_53 v G b kd sz d (b + (266 + 6 * n)) z) = some (r, G1) ∧ eT kd sz (fun G1 : gH => (some (-1, G1) : Option (Int32 × gH))) (fun z G1 => jX11_entry_76 v G1 m kd sz d z) G1 = some (r, G2) ∧ Fw G G1 b 320 ∧ Sp v b m G G1 G2 := by
    refine eT_2 (R := fun (o : Option (Int32 × gH)) (F : gH → Option (Int32 × gH)) => ∃ r G1 G2, o = some (r, G1) ∧ F G1 = some (r, G2) ∧ Fw G G1 b 320 ∧ Sp v b m G G1 G2) (stay (-1)) (fun z s4 hs4 hs5 => ?_)
    rw [k_e53 (v := v) c r3 r8 r10 r11 r13]
    by_cases q0 : ns = 0
    · obtain ⟨x, G1, G2, a1, a2, a3, a4⟩ := stay (-2)
      refine ⟨x, G1, G2, by rw [if_pos q0]; exact a1, ?_, a3, a4⟩
      show jX11_entry_76 v G1 m kd sz d z = _
      rw [m_e76 (v := v) (k.fw hm a3) r9 r10 r12 r13, if_pos q0]
      exact a2
    · rw [if_neg q0]
      have e76 : ∀ {G1 : gH}, Fw G G1 b 320 → jX11_entry_76 v G1 m kd sz d z = jX11_entry_105 v G1 m kd sz d (if ls = 0 then 0 else 1) z := fun f1 => by
        rw [m_e76 (v := v) (k.fw hm f1) r9 r10 r12 r13, if_neg q0]
      obtain ⟨w1, w2, w3⟩ := k_e84 (v := v) c r1 r3 kd sz d (if ls = 0 then 0 else 1) z
      by_cases q1 : z = (if ls = 0 then 0 else 1)
      · by_cases q2 : n = 8
        · obtain ⟨x, G1, G2, a1, a2, a3, a4⟩ := stay (-3)
          refine ⟨x, G1, G2, by rw [w2 q1 q2]; exact a1, ?_, a3, a4⟩
          show jX11_entry_76 v G1 m kd sz d z = _
          rw [e76 a3, (m_e105 (v := v) (k.fw hm a3) r2 r3 kd sz d _ z).2.1 q1 q2]
          exact a2
        · have hn : n < 8 := by omega
          obtain ⟨G1, O1, P1, e1, c1, hT, f1⟩ := w3 q1 hn
          obtain ⟨G2, e2, k2, f2⟩ := (m_e105 (v := v) (k.fw hm f1) r2 r3 kd sz d (if ls = 0 then 0 else 1) z).2.2 q1 hn
          obtain ⟨t1, t2, t3, t4, t5, t6, t7⟩ := hT
          refine ⟨nI n, G1, G2, e1, ?_, f1, mkSp hm f1 f2 c1 s k2 (t := t) (n := n + 1) (ns := 0) (ls := 0) ⟨⟨t1, updI_s _ _ _, by omega⟩, ⟨?_, ?_, r6, fun j hj => ?_⟩, ⟨t4, mEn_48, by omega⟩, ⟨t5, mEn_68, by omega⟩⟩ ⟨i.1.eq (updI_n _ _ (by decide)) (updI_n _ _ (by decide)) (updI_n _ _ (by decide)), i.2.1.eq (updI_n _ _ (by decide)) (updI_n _ _ (by decide)) (mEn_o (by decide)) (mEn_o (by decide)) (mEb_o (by decide)) (mEb_o (by decide)), mBe_nb, fun e he => ?_⟩⟩
          · show jX11_entry_76 v G1 m kd sz d z = _
            rw [e76 f1]
            exact e2
          · rw [t2 1 (by decide) (by omega) (by omega)]; exact r4
          · rw [updI_n _ _ (by decide)]; exact r5
          · rw [mEn_o (by decide), t2 2 (by decide) (by omega) (by omega)]; exact r7 j hj
          · by_cases q3 : e = n
            · subst q3
              refine ⟨ns, ls, s4, ?_, by omega, r10, ?_, r13, ?_, hs5, ?_⟩
              · rw [mEn_4 hn, if_pos rfl]; exact r9
              · rw [mEn_6 hn, if_pos rfl]; exact r12
              · rw [mEn_8, if_pos rfl]; exact hs4
              · rw [mEb_7 hn (by decide), if_pos rfl, mEb_7 hn (by decide), if_pos rfl, mEb_7 hn (by decide), if_pos rfl, mEb_7 hn (by decide), if_pos rfl]
                exact i.2.2.1
            · refine (i.2.2.2 e (by omega)).eq ?_ ?_ ?_ (fun j hj => ?_)
              · rw [mEn_4 (by omega), if_neg q3]
              · rw [mEn_6 (by omega), if_neg q3]
              · rw [mEn_8, if_neg q3]
              · rw [mEb_7 (by omega) hj, if_neg q3]
      · obtain ⟨x, G1, G2, a1, a2, a3, a4⟩ := stay (-2)
        refine ⟨x, G1, G2, by rw [w1 q1]; exact a1, ?_, a3, a4⟩
        show jX11_entry_76 v G1 m kd sz d z = _
        rw [e76 a3, (m_e105 (v := v) (k.fw hm a3) r2 r3 kd sz d _ z).1 q1]
        exact a2
  obtain ⟨x, G1, G2, e1, e2, f1, sp⟩ := key
  refine ⟨x, G1, G2, ?_, ?_, sp⟩
  · rw [k_entryT (v := v) c r1 r3]
    exact e1
  · rw [m_entryT (v := v) (k.fw hm f1), ← e2, eT_ap]
theorem i_clear (h : INV v G b m) (hm : b + 320 ≤ m) : ∃ r G1 G2, fX10_clear v G b = some (r, G1) ∧ fX11_clear v G1 m = some (r, G2) ∧ Sp v b m G G1 G2 := by
  obtain ⟨O, P, I, J, A, B, t, n, ns, ls, c, s, k, r, i⟩ := h
  obtain ⟨⟨r1, r2, r3⟩, ⟨r4, r5, r6, r7⟩, ⟨r8, r9, r10⟩, ⟨r11, r12, r13⟩⟩ := r
  obtain ⟨G1, O1, P1, e1, c1, t1, t2, t3, t4, -, -, f1⟩ := k_clear (v := v) c r1
  obtain ⟨G2, e2, k2, f2⟩ := m_clear (v := v) (k.fw hm f1)
  rw [r2] at e2
  refine ⟨_, G1, G2, e1, e2, mkSp hm f1 f2 c1 s k2 (t := t) (n := 0) (ns := 0) (ls := 0) ⟨⟨t1, updI_s _ _ _, by omega⟩, ⟨?_, ?_, r6, fun j hj => ?_⟩, ⟨t3, ?_, by omega⟩, ⟨t4, ?_, by omega⟩⟩ ⟨i.1.eq (updI_n _ _ (by decide)) (updI_n _ _ (by decide)) (updI_n _ _ (by decide)), i.2.1.eq (updI_n _ _ (by decide)) (updI_n _ _ (by decide)) ?_ ?_ (mBe_o (by decide)) (mBe_o (by decide)), mBe_nb, fun e he => absurd he (Nat.not_lt_zero _)⟩⟩
  · rw [t2 1 (by decide) (by omega)]; exact r4
  · rw [updI_n _ _ (by decide)]; exact r5
  · rw [t2 2 (by decide) (by omega)]
    unfold upA
    rw [if_neg (by omega), if_neg (by omega)]
    exact r7 j hj
  · unfold upA
    rw [if_neg (by omega), if_pos ⟨rfl, rfl⟩]
    rfl
  · unfold upA
    rw [if_pos ⟨rfl, rfl⟩]
    rfl
  · funext j; unfold upA; rw [if_neg (by omega), if_neg (by omega)]
  · funext j; unfold upA; rw [if_neg (by omega), if_neg (by omega)]
theorem rchOut {lo hi : Nat} (h : Rch v G b O P lo hi G1) (h1 : 3 ≤ lo) (h2 : hi ≤ 266) : ∃ O' P', CAt G1 b O' P' ∧ (∀ k, k < 3 ∨ 266 ≤ k → O' k = O k) ∧ Fw G G1 b 320 := by
  obtain ⟨O', P', a1, a2, a3, -⟩ := h
  exact ⟨O', P', a1, fun k hk => (a2 k (by omega)).1, a3⟩
theorem i_best (h : INV v G b m) : ∃ r1 r2, fX10_best v G b = some r1 ∧ fX11_best v G m = some r2 := by
  obtain ⟨O, P, I, J, A, B, t, n, ns, ls, c, s, k, r, i⟩ := h
  obtain ⟨x1, e1, -⟩ := p_best (lo := 3) (hi := 11) (Rch.rf c s) (by decide) r.1.1 r.1.2.2
  obtain ⟨⟨len, l1, l2⟩, ⟨d, d1⟩, w1⟩ := i.1
  obtain ⟨x2, e2, -⟩ := w_best (v := v) (k.wr d1 w1) r.1.2.1 r.1.2.2 i.2.2.2
  exact ⟨x1, x2, e1, e2⟩
theorem i_write (h : INV v G b m) (hm : b + 320 ≤ m) (x y : Int32) : ∃ r1 r2 G1 G2, fX10_write v G b x y = some (r1, G1) ∧ fX11_write v G1 m x y = some (r2, G2) ∧ Sp v b m G G1 G2 := by
  obtain ⟨O, P, I, J, A, B, t, n, ns, ls, c, s, k, r, i⟩ := h
  obtain ⟨⟨r1, G1⟩, e1, hR⟩ := p_write (Rch.rf c s) r.1.1 r.1.2.2 x y
  obtain ⟨O', P', c1, o1, f1⟩ := rchOut hR (by decide) (by decide)
  obtain ⟨⟨len, l1, l2⟩, ⟨d, d1⟩, w1⟩ := i.1
  obtain ⟨⟨r2, G2⟩, e2, I', A', len', k2, i2, a2, l3, l4, w2, d2, f2⟩ := m_write (v := v) (k.fw hm f1) r.1.2.1 r.1.2.2 i.2.2.2 l2 l1 w1 d1 x y
  exact ⟨r1, r2, G1, G2, e1, e2, mkSp hm f1 f2 c1 s k2 (r.eq o1 (i2 1 (by decide) (by decide) (by decide)) (i2 2 (by decide) (by decide) (by decide)) (a2 1 (by decide) (by decide) (by decide)) (a2 4 (by decide) (by decide) (by decide)) (a2 6 (by decide) (by decide) (by decide))) ⟨⟨⟨len', l4, l3⟩, d2, w2⟩, i.2.1.eq (i2 19 (by decide) (by decide) (by decide)) (i2 30 (by decide) (by decide) (by decide)) (a2 17 (by decide) (by decide) (by decide)) (a2 19 (by decide) (by decide) (by decide)) rfl rfl, i.2.2.1, fun e he => (i.2.2.2 e he).eq (congrFun (a2 4 (by decide) (by decide) (by decide)) e) (congrFun (a2 6 (by decide) (by decide) (by decide)) e) (congrFun (a2 8 (by decide) (by decide) (by decide)) e) (fun _ _ => rfl)⟩⟩
theorem i_trim (h : INV v G b m) (hm : b + 320 ≤ m) (x : Int32) : ∃ r1 r2 G1 G2, fX10_trim v G b x = some (r1, G1) ∧ fX11_trim v G1 m x = some (r2, G2) ∧ Sp v b m G G1 G2 := by
  obtain ⟨O, P, I, J, A, B, t, n, ns, ls, c, s, k, r, i⟩ := h
  obtain ⟨⟨r1, G1⟩, e1, hR⟩ := p_trim (Rch.rf c s) x
  obtain ⟨O', P', c1, o1, f1⟩ := rchOut hR (by decide) (by decide)
  obtain ⟨⟨len, l1, l2⟩, d1, w1⟩ := i.1
  obtain ⟨G2, e2, k2, f2⟩ := m_trim (v := v) (k.fw hm f1) l2 x
  have hI : ∃ u, u ≤ 32768 ∧ (if 0 ≤ x ∧ x ≤ nI len then upd I 12 x else I) = upd I 12 (nI u) := by
    by_cases q : 0 ≤ x ∧ x ≤ nI len
    · obtain ⟨j, hj, rfl⟩ := nI_of (Int32.not_lt.mpr q.1)
      have := (nI_leI hj (by omega)).mp q.2
      exact ⟨j, by omega, if_pos q⟩
    · refine ⟨len, l1, ?_⟩
      rw [if_neg q]
      funext j
      unfold upd
      by_cases hj : j = 12
      · rw [if_pos hj, hj, l2]
      · rw [if_neg hj]
  obtain ⟨u, hu, hI⟩ := hI
  rw [hI] at k2
  exact ⟨r1, _, G1, G2, e1, e2, mkSp hm f1 f2 c1 s k2 (r.eq o1 (updI_n _ _ (by decide)) (updI_n _ _ (by decide)) rfl rfl rfl) ⟨⟨⟨u, hu, updI_s _ _ _⟩, by rw [updI_n _ _ (by decide)]; exact d1, by rw [updI_n _ _ (by decide)]; exact w1⟩, i.2.1.eq (updI_n _ _ (by decide)) (updI_n _ _ (by decide)) rfl rfl rfl rfl, i.2.2⟩⟩
theorem i_poke (h : INV v G b m) (hm : b + 320 ≤ m) (x y : Int32) : ∃ r1 r2 G1 G2, fX10_poke v G b x y = some (r1, G1) ∧ fX11_poke v G1 m x y = some (r2, G2) ∧ Sp v b m G G1 G2 := by
  obtain ⟨O, P, I, J, A, B, t, n, ns, ls, c, s, k, r, i⟩ := h
  obtain ⟨⟨r1, G1⟩, e1, hR⟩ := p_poke (Rch.rf c s) x y
  obtain ⟨O', P', c1, o1, f1⟩ := rchOut hR (by decide) (by decide)
  obtain ⟨⟨len, l1, l2⟩, d1, w1⟩ := i.1
  obtain ⟨G2, e2, k2, f2⟩ := m_poke (v := v) (k.fw hm f1) l2 l1 x y
  have ha : ∀ c, c ≠ 10 → (if pkOk len x y then upA A 10 x.toInt.toNat (A 10 x.toInt.toNat ^^^ y) else A) c = A c := by
    intro c hc
    by_cases q : pkOk len x y = true
    · rw [if_pos q]
      funext j
      unfold upA
      rw [if_neg (fun z => hc z.1)]
    · rw [if_neg q]
  exact ⟨r1, _, G1, G2, e1, e2, mkSp hm f1 f2 c1 s k2 (r.eq o1 rfl rfl (ha 1 (by decide)) (ha 4 (by decide)) (ha 6 (by decide))) ⟨i.1, i.2.1.eq rfl rfl (ha 17 (by decide)) (ha 19 (by decide)) rfl rfl, i.2.2.1, fun e he => (i.2.2.2 e he).eq (congrFun (ha 4 (by decide)) e) (congrFun (ha 6 (by decide)) e) (congrFun (ha 8 (by decide)) e) (fun _ _ => rfl)⟩⟩
theorem i_sum (h : INV v G b m) (hm : b + 320 ≤ m) (x : Int32) : ∃ r1 r2 G1 G2, fX10_sum v G b x = some (r1, G1) ∧ fX11_sum v G1 m x = some (r2, G2) ∧ Sp v b m G G1 G2 := by
  obtain ⟨O, P, I, J, A, B, t, n, ns, ls, c, s, k, r, i⟩ := h
  obtain ⟨⟨r1, G1⟩, e1, hR⟩ := p_sum (Rch.rf c s) x
  obtain ⟨O', P', c1, o1, f1⟩ := rchOut hR (by decide) (by decide)
  obtain ⟨⟨len, l1, l2⟩, d1, w1⟩ := i.1
  obtain ⟨⟨r2, G2⟩, e2, A', k2, ha, f2⟩ := m_sum (v := v) (k.fw hm f1) l2 l1 x
  exact ⟨r1, r2, G1, G2, e1, e2, mkSp hm f1 f2 c1 s k2 (r.eq o1 rfl rfl (ha 1 (by decide)) (ha 4 (by decide)) (ha 6 (by decide))) ⟨i.1, i.2.1.eq rfl rfl (ha 17 (by decide)) (ha 19 (by decide)) rfl rfl, i.2.2.1, fun e he => (i.2.2.2 e he).eq (congrFun (ha 4 (by decide)) e) (congrFun (ha 6 (by decide)) e) (congrFun (ha 8 (by decide)) e) (fun _ _ => rfl)⟩⟩
theorem i_octet (h : INV v G b m) (x : Int32) : ∃ r1 r2, fX10_octet v G b x = some r1 ∧ fX11_octet v G m x = some r2 := by
  obtain ⟨O, P, I, J, A, B, t, n, ns, ls, c, s, k, r, i⟩ := h
  obtain ⟨x1, e1, -⟩ := p_octet (lo := 3) (hi := 11) (Rch.rf c s) x
  obtain ⟨⟨len, l1, l2⟩, d1, w1⟩ := i.1
  exact ⟨x1, _, e1, m_octet (v := v) k l2 l1 x⟩
theorem i_read (h : INV v G b m) (hm : b + 320 ≤ m) (x : Int32) : ∃ r1 r2 G1 G2, fX10_read v G b x = some (r1, G1) ∧ fX11_read v G1 m x = some (r2, G2) ∧ Sp v b m G G1 G2 := by
  obtain ⟨O, P, I, J, A, B, t, n, ns, ls, c, s, k, r, i⟩ := h
  obtain ⟨⟨r1, G1⟩, e1, hR⟩ := p_read (Rch.rf c s) x
  obtain ⟨O', P', c1, o1, f1⟩ := rchOut hR (by decide) (by decide)
  obtain ⟨⟨len, l1, l2⟩, d1, w1⟩ := i.1
  obtain ⟨⟨fo, fo1, fo2, fo3⟩, i30, ah⟩ := i.2.1
  obtain ⟨⟨r2, G2⟩, e2, fo', I', J', A', B', k2, q2, q3, q4, q5, q6, q7, q8, q9, -, f2⟩ := d_read (v := v) (G0 := G1) (fo := fo) ⟨I, J, A, B, k.fw hm f1, fun _ _ _ _ _ _ => rfl, fun _ _ => rfl, fun _ _ _ _ => rfl, fo2, fo1, i30, ah, fo3, trivial, Fw.rf⟩ l2 l1 x
  refine ⟨r1, r2, G1, G2, e1, e2, mkSp hm f1 f2 c1 s k2 (r.eq o1 (q2 1 (by decide) (by decide) (by decide) (by decide) (by decide)) (q2 2 (by decide) (by decide) (by decide) (by decide) (by decide)) (q3 1 (by decide)) (q3 4 (by decide)) (q3 6 (by decide))) ⟨i.1.eq (q2 12 (by decide) (by decide) (by decide) (by decide) (by decide)) (q2 14 (by decide) (by decide) (by decide) (by decide) (by decide)) (q2 16 (by decide) (by decide) (by decide) (by decide) (by decide)), ⟨⟨fo', q6, q5, q9⟩, q7, q8⟩, ?_, fun e he => (i.2.2.2 e he).eq (congrFun (q3 4 (by decide)) e) (congrFun (q3 6 (by decide)) e) (congrFun (q3 8 (by decide)) e) (fun j _ => congrFun (q4 7 (by decide) (by decide) (by decide)) _)⟩⟩
  unfold nb5
  rw [q4 7 (by decide) (by decide) (by decide)]
  exact i.2.2.1
theorem i_told (h : INV v G b m) (x : Int32) : ∃ r1 r2, fX10_told v G b x = some r1 ∧ fX11_told v G m x = some r2 := by
  obtain ⟨O, P, I, J, A, B, t, n, ns, ls, c, s, k, r, i⟩ := h
  obtain ⟨x1, e1, -⟩ := p_told (lo := 3) (hi := 11) (Rch.rf c s) x
  exact ⟨x1, _, e1, m_told (v := v) k x⟩
theorem i_found (h : INV v G b m) (x y : Int32) : ∃ r1 r2, fX10_found v G b x y = some r1 ∧ fX11_found v G m x y = some r2 := by
  obtain ⟨O, P, I, J, A, B, t, n, ns, ls, c, s, k, r, i⟩ := h
  obtain ⟨x1, e1, -⟩ := p_found (lo := 3) (hi := 11) (Rch.rf c s) x y
  obtain ⟨⟨fo, fo1, fo2, fo3⟩, i30, ah⟩ := i.2.1
  exact ⟨x1, _, e1, m_found (v := v) k fo2 fo1 x y⟩
theorem i_letter (h : INV v G b m) (x y z : Int32) : ∃ r1 r2, fX10_letter v G b x y z = some r1 ∧ fX11_letter v G m x y z = some r2 := by
  obtain ⟨O, P, I, J, A, B, t, n, ns, ls, c, s, k, r, i⟩ := h
  obtain ⟨x1, e1, -⟩ := p_letter (lo := 3) (hi := 11) (Rch.rf c s) x y z
  obtain ⟨⟨fo, fo1, fo2, fo3⟩, i30, ah⟩ := i.2.1
  obtain ⟨x2, e2, -⟩ := m_letter (v := v) k fo2 fo1 fo3 x y z
  exact ⟨x1, x2, e1, e2⟩
end ZB
