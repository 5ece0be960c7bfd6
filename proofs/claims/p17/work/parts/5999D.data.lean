/-! PURE: DATA, and BLOCKS filled, on both sides -/
def fl (n : Nat) : Nat := (n + 511) / 512 * 512
theorem fl_le (n : Nat) : n ≤ fl n ∧ fl n < n + 512 ∧ fl n % 512 = 0 := by
  unfold fl
  omega
theorem fl_z {n : Nat} (h : n % 512 = 0) : fl n = n := by
  unfold fl
  omega
theorem fl_s {n : Nat} (h : n % 512 ≠ 0) : fl (n + 1) = fl n := by
  unfold fl
  omega
theorem fl_a {b n : Nat} (h : b % 512 = 0) : fl (b + n) = b + fl n := by
  unfold fl
  omega
def dB (s : Int32) (i : Nat) : Int32 := (((s + nI i) * (-1640531535 : Int32)) ^^^ ((((s + nI i) * (-1640531535 : Int32)).toUInt32 >>> ((15 : Int32).toUInt32 &&& Int32.toUInt32 31)).toInt32)) &&& (255 : Int32)
section DA3
variable {v : Nat → Nat} {G0 G G' : gH} {m : Nat} {I : Nat → Int32} {J : Int64} {A : Nat → Nat → Int32} {B : Nat → Nat → Int64} {d w a cap u wv : Nat} {g h : Nat → Int32} {x1 x2 : Value}
theorem k_filled {n : Nat} (h : n + 512 < 2 ^ 31) : fX10_filled v G (nI n) = some (nI (fl n)) := by
  unfold fX10_filled
  have e1 : nI n + 512 - 1 = nI (n + 511) := by
    rw [show nI n + (512 : Int32) = nI (n + 512) from nI_add n 512]
    exact pk_sub (a := n + 512) (b := 1) (by omega)
  rw [e1, show (512 : Int32) = nI 512 from rfl, nI_div (by omega) (by decide) (by decide), nI_mul]
  rfl
theorem k_fillBlock (hne : wv ≠ a) (o : G.2.1 wv = some (2, [.ref a, x1, x2])) (rb : RowB G a cap u g) (hu : fl u ≤ cap) (hu2 : u < 2 ^ 29) : ∃ G', fX2_fillBlock v G wv = some G' ∧ Fr2 G G' a ∧ RowB G' a cap (fl u) (fa g u (fl u - u) (fun _ => 0)) := by
  have hf := fl_le u
  obtain ⟨G1, e1, r1, b1⟩ := rb_zeros (v := v) (n := fl u - u) rb (by omega)
  rw [show u + (fl u - u) = fl u by omega] at b1
  refine ⟨G1, ?_, r1, b1⟩
  unfold fX2_fillBlock
  rw [gOb_at o, Option.bind_some, gR_at o (k := 0) (x := a) rfl, Option.bind_some, Option.bind_some, rb_count rb, Option.bind_some, k_filled (by omega), Option.bind_some, Option.bind_some, rb_count rb, Option.bind_some, pk_sub hf.1, e1, Option.bind_some]
theorem g_fill (q : WG G0 m I J A B d w g h G) (hd : d + 512 ≤ 120000) : Ok (WG G0 m I J A B (fl d) w (fa g d (fl d - d) (fun _ => 0)) h) (fX11_fill v G m) := by
  have lp : ∀ (e f : Nat) (G : gH) (d : Nat) (g : Nat → Int32), fl d - d = e → e < f → d + e ≤ 120000 → WG G0 m I J A B d w g h G → Ok (WG G0 m I J A B (fl d) w (fa g d (fl d - d) (fun _ => 0)) h) (lX11_fill_0 v f G m) := by
    intro e
    induction e with
    | zero =>
      intro f G d g he hf hd q
      obtain ⟨f, rfl⟩ : ∃ f', f = f' + 1 := ⟨f - 1, by omega⟩
      have hfl := fl_le d
      show Ok _ (bX11_fill_0 v (lX11_fill_0 v f) G m)
      unfold bX11_fill_0
      refine Ok.e q.wr.i14 ?_
      rw [nI_rem (by omega)]
      have e0 : fl d = d := by omega
      refine Ok.i (fun _ => Ok.s ?_) (fun z => absurd ?_ z)
      · rw [e0, Nat.sub_self, fa_0]
        exact q
      · rw [show d % 512 = 0 by omega]
        rfl
    | succ e ih =>
      intro f G d g he hf hd q
      obtain ⟨f, rfl⟩ : ∃ f', f = f' + 1 := ⟨f - 1, by omega⟩
      have hfl := fl_le d
      have hz : d % 512 ≠ 0 := fun z => by
        have := fl_z z
        omega
      have hs := fl_s hz
      show Ok _ (bX11_fill_0 v (lX11_fill_0 v f) G m)
      unfold bX11_fill_0
      refine Ok.e q.wr.i14 ?_
      rw [nI_rem (by omega)]
      refine Ok.i (fun z => absurd ((nI_eq (b := 0) (by omega) (by decide)).mp z) hz) (fun _ => ?_)
      refine Ok.e (q.wr.r 13 11 rfl (by decide)) ?_
      refine Ok.e q.wr.i14 ?_
      refine q.app (by omega) (fun G1 q1 => ?_)
      refine (ih f G1 (d + 1) _ (by omega) (by omega) (by omega) q1).w (fun G2 k2 => ?_)
      rw [hs] at k2
      refine k2.c (fun j hj => ?_) (fun _ _ => rfl)
      by_cases q : j = d
      · subst q
        rw [fa_n (by omega), updI_s, fa_i (by omega)]
      · by_cases q2 : d + 1 ≤ j ∧ j < d + 1 + (fl d - (d + 1))
        · rw [fa_i q2, fa_i (by omega)]
        · rw [fa_n q2, updI_n _ _ q, fa_n (by omega)]
  have hfl := fl_le d
  unfold fX11_fill
  refine Ok.e q.wr.ob ?_
  exact lp (fl d - d) gFu G d g rfl (by unfold gFu; omega) (by omega) q
/-- the class: DATA, and the BLOCK filled -/
theorem k_data {ea sz : Nat} {sd : Int32} {y0 y1 y2 : Value} {kd : Int32} (hne : wv ≠ a) (hea : ea ≠ a) (o : G.2.1 wv = some (2, [.ref a, x1, x2])) (oe : G.2.1 ea = some (3, [y0, y1, y2, .int kd, .int (nI sz), .int sd])) (rb : RowB G a cap u g) (hsz : sz < 2 ^ 20) (hu : fl (u + sz) ≤ cap) (hu2 : u < 2 ^ 28) : ∃ G', lX2_append_123 v gFu G wv ea 0 = some G' ∧ Fr2 G G' a ∧ RowB G' a cap (fl (u + sz)) (fa (fa g u sz (dB sd)) (u + sz) (fl (u + sz) - (u + sz)) (fun _ => 0)) := by
  have hfl := fl_le (u + sz)
  have lp : ∀ (e c f : Nat) (G : gH) (u : Nat) (g : Nat → Int32), c + e = sz → e < f → u + e < 2 ^ 28 + 2 ^ 20 → fl (u + e) ≤ cap → G.2.1 wv = some (2, [.ref a, x1, x2]) → G.2.1 ea = some (3, [y0, y1, y2, .int kd, .int (nI sz), .int sd]) → RowB G a cap u g → ∃ G', lX2_append_123 v f G wv ea (nI c) = some G' ∧ Fr2 G G' a ∧ RowB G' a cap (fl (u + e)) (fa (fa g u e (fun j => dB sd (c + j))) (u + e) (fl (u + e) - (u + e)) (fun _ => 0)) := by
    intro e
    induction e with
    | zero =>
      intro c f G u g hc hf hu2 hu o oe rb
      obtain ⟨f, rfl⟩ : ∃ f', f = f' + 1 := ⟨f - 1, by omega⟩
      obtain ⟨G1, e1, r1, b1⟩ := k_fillBlock (v := v) hne o rb hu (by omega)
      refine ⟨G1, ?_, r1, by rw [fa_0]; exact b1⟩
      show bX2_append_123 v (lX2_append_123 v f) G wv ea (nI c) = _
      unfold bX2_append_123
      rw [gI_at oe (k := 4) (x := nI sz) rfl, Option.bind_some, if_pos (nI_le (by omega) (by omega)), e1, Option.bind_some]
    | succ e ih =>
      intro c f G u g hc hf hu2 hu o oe rb
      obtain ⟨f, rfl⟩ : ∃ f', f = f' + 1 := ⟨f - 1, by omega⟩
      have hfl := fl_le (u + (e + 1))
      have hbd : dB sd c &&& 255 = dB sd c := by
        unfold dB
        exact i32_255 _
      obtain ⟨G1, e1, r1, b1⟩ := rb_add (v := v) rb (by omega) (dB sd c)
      have o1 := r1.ob hne o
      have oe1 := r1.ob hea oe
      obtain ⟨G', e', r', b'⟩ := ih (c + 1) f G1 (u + 1) _ (by omega) (by omega) (by omega) (by rw [show u + 1 + e = u + (e + 1) by omega]; exact hu) o1 oe1 b1
      rw [show u + 1 + e = u + (e + 1) by omega] at b'
      refine ⟨G', ?_, r1.tr r', b'.c (fun j hj => ?_)⟩
      · show bX2_append_123 v (lX2_append_123 v f) G wv ea (nI c) = _
        unfold bX2_append_123
        have ed : fX3_dataByte v G ea (nI c) = some (dB sd c) := by
          unfold fX3_dataByte dB
          rw [gOb_at oe, Option.bind_some, gI_at oe (k := 5) (x := sd) rfl, Option.bind_some, Option.bind_some]
        rw [gI_at oe (k := 4) (x := nI sz) rfl, Option.bind_some, if_neg (nI_ge (by omega) (by omega)), gR_at o (k := 0) (x := a) rfl, Option.bind_some, ed, Option.bind_some, e1, Option.bind_some, Option.bind_some, nI_1]
        exact e'
      · refine fa_c (N := fl (u + (e + 1))) (fun j hj q => ?_) (fun _ _ => rfl) j hj
        by_cases q1 : j = u
        · subst q1
          rw [fa_n (by omega), updI_s, fa_i (by omega), hbd, show c + (j - j) = c by omega]
        · by_cases q2 : u + 1 ≤ j ∧ j < u + 1 + e
          · rw [fa_i q2, fa_i (by omega), show c + 1 + (j - (u + 1)) = c + (j - u) by omega]
          · rw [fa_n q2, updI_n _ _ q1, fa_n (by omega)]
  obtain ⟨G', e', r', b'⟩ := lp sz 0 gFu G u g (by omega) (by unfold gFu; omega) (by omega) hu o oe rb
  refine ⟨G', e', r', b'.c (fun j hj => ?_)⟩
  refine fa_c (N := fl (u + sz)) (fun j hj q => ?_) (fun _ _ => rfl) j hj
  refine fa_c (N := fl (u + sz)) (fun _ _ _ => rfl) (fun j hj => ?_) j hj
  rw [Nat.zero_add]
/-- the reference: DATA, and the BLOCK filled -/
theorem g_data (q : WG G0 m I J A B d w g h G) {e sz : Nat} {sd : Int32} (he : e < 8) (hsz : A 8 e = nI sz) (hsd : A 9 e = sd) (hs : sz < 2 ^ 20) (hd : d + sz + 512 ≤ 120000) : Ok (WG G0 m I J A B (fl (d + sz)) w (fa (fa g d sz (dB sd)) (d + sz) (fl (d + sz) - (d + sz)) (fun _ => 0)) h) (lX11_put_372 v gFu G m (nI e) 0) := by
  have lp : ∀ (n c f : Nat) (G : gH) (d : Nat) (g : Nat → Int32), c + n = sz → n < f → d + n + 512 ≤ 120000 → WG G0 m I J A B d w g h G → Ok (WG G0 m I J A B (fl (d + n)) w (fa (fa g d n (fun j => dB sd (c + j))) (d + n) (fl (d + n) - (d + n)) (fun _ => 0)) h) (lX11_put_372 v f G m (nI e) (nI c)) := by
    intro n
    induction n with
    | zero =>
      intro c f G d g hc hf hd q
      obtain ⟨f, rfl⟩ : ∃ f', f = f' + 1 := ⟨f - 1, by omega⟩
      show Ok _ (bX11_put_372 v (lX11_put_372 v f) G m (nI e) (nI c))
      unfold bX11_put_372
      refine Ok.e (q.wr.r 9 8 rfl (by decide)) ?_
      refine Ok.e (q.wr.ld 8 ⟨by decide, by decide, rfl, by decide, by decide⟩ rfl rfl (show e < 9 by omega)) ?_
      rw [hsz]
      refine Ok.i (fun _ => ?_) (fun z => absurd (nI_le (by omega) (by omega)) z)
      refine Ok.b (g_fill q (by omega)) (fun G1 q1 => Ok.s ?_)
      rw [fa_0]
      exact q1
    | succ n ih =>
      intro c f G d g hc hf hd q
      obtain ⟨f, rfl⟩ : ∃ f', f = f' + 1 := ⟨f - 1, by omega⟩
      have hfl := fl_le (d + (n + 1))
      show Ok _ (bX11_put_372 v (lX11_put_372 v f) G m (nI e) (nI c))
      unfold bX11_put_372
      refine Ok.e (q.wr.r 9 8 rfl (by decide)) ?_
      refine Ok.e (q.wr.ld 8 ⟨by decide, by decide, rfl, by decide, by decide⟩ rfl rfl (show e < 9 by omega)) ?_
      rw [hsz]
      refine Ok.i (fun z => absurd z (nI_ge (by omega) (by omega))) (fun _ => ?_)
      refine Ok.e (q.wr.r 10 9 rfl (by decide)) ?_
      refine Ok.e (q.wr.ld 9 ⟨by decide, by decide, rfl, by decide, by decide⟩ rfl rfl (show e < 9 by omega)) ?_
      rw [hsd]
      refine Ok.e rfl ?_
      refine Ok.e (q.wr.r 13 11 rfl (by decide)) ?_
      refine Ok.e q.wr.i14 ?_
      refine q.app (x := dB sd c) (by omega) (fun G1 q1 => ?_)
      refine Ok.e rfl ?_
      rw [nI_1]
      refine (ih (c + 1) f G1 (d + 1) _ (by omega) (by omega) (by omega) q1).w (fun G2 k2 => ?_)
      rw [show d + 1 + n = d + (n + 1) by omega] at k2
      refine k2.c (fun j hj => ?_) (fun _ _ => rfl)
      refine fa_c (N := fl (d + (n + 1))) (fun j hj q => ?_) (fun _ _ => rfl) j hj
      by_cases q1 : j = d
      · subst q1
        rw [fa_n (by omega), updI_s, fa_i (by omega), show c + (j - j) = c by omega]
      · by_cases q2 : d + 1 ≤ j ∧ j < d + 1 + n
        · rw [fa_i q2, fa_i (by omega), show c + 1 + (j - (d + 1)) = c + (j - d) by omega]
        · rw [fa_n q2, updI_n _ _ q1, fa_n (by omega)]
  refine (lp sz 0 gFu G d g (by omega) (by unfold gFu; omega) (by omega) q).w (fun G2 k2 => k2.c (fun j hj => ?_) (fun _ _ => rfl))
  refine fa_c (N := fl (d + sz)) (fun j hj q => ?_) (fun _ _ => rfl) j hj
  refine fa_c (N := fl (d + sz)) (fun _ _ _ => rfl) (fun j hj => ?_) j hj
  rw [Nat.zero_add]
end DA3
/-! PURE: an ENTRY's own HEAD and DATA, the reference -/
theorem fa_comm {f k k' : Nat → Int32} {p n p' n' : Nat} (h : p + n ≤ p' ∨ p' + n' ≤ p) : fa (fa f p n k) p' n' k' = fa (fa f p' n' k') p n k := by
  funext j
  by_cases q : p ≤ j ∧ j < p + n
  · rw [fa_n (u := p') (by omega), fa_i q, fa_i q]
  · by_cases q2 : p' ≤ j ∧ j < p' + n'
    · rw [fa_i q2, fa_n q, fa_i q2]
    · rw [fa_n q2, fa_n q, fa_n q, fa_n q2]
section PU
variable {v : Nat → Nat} {G0 G G' : gH} {m : Nat} {I : Nat → Int32} {J : Int64} {A : Nat → Nat → Int32} {B : Nat → Nat → Int64} {d w : Nat} {g h : Nat → Int32}
theorem g_217 {e p ns fr : Nat} {nb f : Nat → Int32} {z0 : Int32} {Q : gH → Prop} (he : e < 8) (hs : A 4 e = nI ns) (hs2 : ns ≤ 400) (hnb : ∀ j, j < ns → A 3 (400 * e + j) = nb j) (hfr : fr ≤ ns) (hp : p + 512 ≤ d) (hd : d ≤ 120000) (hk : ∀ G', WG G0 m I J A B d w (fa g p 512 (fa f 0 (min (ns - fr) 100) (fun k => nb (fr + k)))) h G' → Ok Q (jX11_put_269 v G' m (nI e) (nI p) z0)) : ∀ (n c u : Nat) (G : gH), c + n = min (ns - fr) 100 → n < u → WG G0 m I J A B d w (fa g p 512 (fa f 0 c (fun k => nb (fr + k)))) h G → Ok Q (lX11_put_217 v u G m (nI e) (nI p) z0 (nI fr) (nI (fr + c))) := by
  intro n
  induction n with
  | zero =>
    intro c u G hc hu q
    obtain ⟨u, rfl⟩ : ∃ u', u = u' + 1 := ⟨u - 1, by omega⟩
    obtain rfl : c = min (ns - fr) 100 := by omega
    show Ok _ (bX11_put_217 v (lX11_put_217 v u) G m (nI e) (nI p) z0 (nI fr) (nI (fr + min (ns - fr) 100)))
    unfold bX11_put_217
    refine Ok.e (q.wr.r 5 4 rfl (by decide)) ?_
    refine Ok.e (q.wr.ld 4 ⟨by decide, by decide, rfl, by decide, by decide⟩ rfl rfl (show e < 9 by omega)) ?_
    rw [hs]
    refine Ok.i (fun _ => hk G q) (fun c1 => ?_)
    refine Ok.i (fun _ => hk G q) (fun c2 => ?_)
    have z1 : fr + min (ns - fr) 100 < ns := nlt (by omega) c1
    exact absurd (show nI fr + (100 : Int32) ≤ nI (fr + min (ns - fr) 100) by
      rw [show nI fr + (100 : Int32) = nI (fr + 100) from nI_add fr 100]
      exact nI_le (by omega) (by omega)) c2
  | succ n ih =>
    intro c u G hc hu q
    obtain ⟨u, rfl⟩ : ∃ u', u = u' + 1 := ⟨u - 1, by omega⟩
    show Ok _ (bX11_put_217 v (lX11_put_217 v u) G m (nI e) (nI p) z0 (nI fr) (nI (fr + c)))
    unfold bX11_put_217
    refine Ok.e (q.wr.r 5 4 rfl (by decide)) ?_
    refine Ok.e (q.wr.ld 4 ⟨by decide, by decide, rfl, by decide, by decide⟩ rfl rfl (show e < 9 by omega)) ?_
    rw [hs]
    refine Ok.i (fun z => absurd z (nI_ge (by omega) (by omega))) (fun _ => ?_)
    rw [show nI fr + (100 : Int32) = nI (fr + 100) from nI_add fr 100]
    refine Ok.i (fun z => absurd z (nI_ge (by omega) (by omega))) (fun _ => ?_)
    refine Ok.e (q.wr.r 13 11 rfl (by decide)) ?_
    refine Ok.e (q.wr.r 4 3 rfl (by decide)) ?_
    refine Ok.e (q.wr.ld 3 (j := 400 * e + (fr + c)) ⟨by decide, by decide, rfl, by decide, by decide⟩ rfl (ix400 e (fr + c)) (show _ < 3600 by omega)) ?_
    rw [hnb (fr + c) (by omega)]
    refine Ok.b (q.st (j := p + c) (nb (fr + c)) ?_ (by omega) hd) (fun G1 q1 => ?_)
    · rw [nI_add, pk_sub (by omega), show p + (fr + c) - fr = p + c by omega]
    rw [fa_upd (by omega)] at q1
    refine Ok.e rfl ?_
    rw [nI_1, show fr + c + 1 = fr + (c + 1) by omega]
    refine ih (c + 1) u G1 (by omega) (by omega) (q1.c (fun j hj => ?_) (fun _ _ => rfl))
    refine fa_c (N := d) (fun _ _ _ => rfl) (fun j hj => ?_) j hj
    by_cases z : j = c
    · subst z
      rw [updI_s, fa_i (by omega), Nat.sub_zero]
    · rw [updI_n _ _ z]
      by_cases y : 0 ≤ j ∧ j < 0 + c
      · rw [fa_i y, fa_i (by omega)]
      · rw [fa_n y, fa_n (by omega)]
theorem g_272 {e p s : Nat} {nb f : Nat → Int32} {Q : gH → Prop} (he : e < 8) (hs : s ≤ 155) (hnb : ∀ j, j < s → A 3 (400 * e + j) = nb j) (hp : p + 512 ≤ d) (hd : d ≤ 120000) (hk : ∀ G', WG G0 m I J A B d w (fa g p 512 (fa f 345 s nb)) h G' → Ok Q (lX11_put_314 v gFu G' m (nI e) (nI p) 0)) : ∀ (n c u : Nat) (G : gH), c + n = s → n < u → WG G0 m I J A B d w (fa g p 512 (fa f 345 c nb)) h G → Ok Q (lX11_put_272 v u G m (nI e) (nI p) (nI s) (nI c)) := by
  intro n
  induction n with
  | zero =>
    intro c u G hc hu q
    obtain ⟨u, rfl⟩ : ∃ u', u = u' + 1 := ⟨u - 1, by omega⟩
    obtain rfl : c = s := by omega
    show Ok _ (bX11_put_272 v (lX11_put_272 v u) G m (nI e) (nI p) (nI c) (nI c))
    unfold bX11_put_272
    exact Ok.i (fun _ => hk G q) (fun z => absurd (nI_le (Nat.le_refl _) (by omega)) z)
  | succ n ih =>
    intro c u G hc hu q
    obtain ⟨u, rfl⟩ : ∃ u', u = u' + 1 := ⟨u - 1, by omega⟩
    show Ok _ (bX11_put_272 v (lX11_put_272 v u) G m (nI e) (nI p) (nI s) (nI c))
    unfold bX11_put_272
    refine Ok.i (fun z => absurd z (nI_ge (by omega) (by omega))) (fun _ => ?_)
    refine Ok.e (q.wr.r 13 11 rfl (by decide)) ?_
    refine Ok.e (q.wr.r 4 3 rfl (by decide)) ?_
    refine Ok.e (q.wr.ld 3 (j := 400 * e + c) ⟨by decide, by decide, rfl, by decide, by decide⟩ rfl (ix400 e c) (show _ < 3600 by omega)) ?_
    rw [hnb c (by omega)]
    refine Ok.b (q.st (j := p + (345 + c)) (nb c) ?_ (by omega) hd) (fun G1 q1 => ?_)
    · rw [show nI p + (345 : Int32) = nI (p + 345) from nI_add p 345, nI_add, Nat.add_assoc]
    rw [fa_upd (by omega)] at q1
    refine Ok.e rfl ?_
    rw [nI_1]
    refine ih (c + 1) u G1 (by omega) (by omega) (q1.c (fun j hj => ?_) (fun _ _ => rfl))
    refine fa_c (N := d) (fun _ _ _ => rfl) (fun j hj => ?_) j hj
    by_cases z : j = 345 + c
    · subst z
      rw [updI_s, fa_i (by omega), show 345 + c - 345 = c by omega]
    · rw [updI_n _ _ z]
      by_cases y : 345 ≤ j ∧ j < 345 + c
      · rw [fa_i y, fa_i (by omega)]
      · rw [fa_n y, fa_n (by omega)]
theorem g_314 {e p ls : Nat} {lb f : Nat → Int32} {Q : gH → Prop} (he : e < 8) (hl : A 6 e = nI ls) (hl2 : ls ≤ 400) (hlb : ∀ j, j < ls → A 5 (400 * e + j) = lb j) (hp : p + 512 ≤ d) (hd : d ≤ 120000) (hk : ∀ G', WG G0 m I J A B d w (fa g p 512 (lkF ls lb f)) h G' → Ok Q (jX11_put_364 v G' m (nI e) (nI p))) : ∀ (n c u : Nat) (G : gH), c + n = min ls 100 → n < u → WG G0 m I J A B d w (fa g p 512 (fa f 157 c lb)) h G → Ok Q (lX11_put_314 v u G m (nI e) (nI p) (nI c)) := by
  intro n
  induction n with
  | zero =>
    intro c u G hc hu q
    obtain ⟨u, rfl⟩ : ∃ u', u = u' + 1 := ⟨u - 1, by omega⟩
    obtain rfl : c = min ls 100 := by omega
    show Ok _ (bX11_put_314 v (lX11_put_314 v u) G m (nI e) (nI p) (nI (min ls 100)))
    unfold bX11_put_314
    refine Ok.e (q.wr.r 7 6 rfl (by decide)) ?_
    refine Ok.e (q.wr.ld 6 ⟨by decide, by decide, rfl, by decide, by decide⟩ rfl rfl (show e < 9 by omega)) ?_
    rw [hl]
    refine Ok.i (fun _ => hk G q) (fun c1 => ?_)
    refine Ok.i (fun _ => hk G q) (fun c2 => ?_)
    have z1 : min ls 100 < ls := nlt (by omega) c1
    exact absurd (show (100 : Int32) ≤ nI (min ls 100) from nI_le (a := 100) (by omega) (by omega)) c2
  | succ n ih =>
    intro c u G hc hu q
    obtain ⟨u, rfl⟩ : ∃ u', u = u' + 1 := ⟨u - 1, by omega⟩
    show Ok _ (bX11_put_314 v (lX11_put_314 v u) G m (nI e) (nI p) (nI c))
    unfold bX11_put_314
    refine Ok.e (q.wr.r 7 6 rfl (by decide)) ?_
    refine Ok.e (q.wr.ld 6 ⟨by decide, by decide, rfl, by decide, by decide⟩ rfl rfl (show e < 9 by omega)) ?_
    rw [hl]
    refine Ok.i (fun z => absurd z (nI_ge (by omega) (by omega))) (fun _ => ?_)
    refine Ok.i (fun z => absurd z (show ¬ (100 : Int32) ≤ nI c from nI_ge (b := 100) (by omega) (by decide))) (fun _ => ?_)
    refine Ok.e (q.wr.r 13 11 rfl (by decide)) ?_
    refine Ok.e (q.wr.r 6 5 rfl (by decide)) ?_
    refine Ok.e (q.wr.ld 5 (j := 400 * e + c) ⟨by decide, by decide, rfl, by decide, by decide⟩ rfl (ix400 e c) (show _ < 3600 by omega)) ?_
    rw [hlb c (by omega)]
    refine Ok.b (q.st (j := p + (157 + c)) (lb c) ?_ (by omega) hd) (fun G1 q1 => ?_)
    · rw [show nI p + (157 : Int32) = nI (p + 157) from nI_add p 157, nI_add, Nat.add_assoc]
    rw [fa_upd (by omega)] at q1
    refine Ok.e rfl ?_
    rw [nI_1]
    refine ih (c + 1) u G1 (by omega) (by omega) (q1.c (fun j hj => ?_) (fun _ _ => rfl))
    refine fa_c (N := d) (fun _ _ _ => rfl) (fun j hj => ?_) j hj
    by_cases z : j = 157 + c
    · subst z
      rw [updI_s, fa_i (by omega), show 157 + c - 157 = c by omega]
    · rw [updI_n _ _ z]
      by_cases y : 157 ≤ j ∧ j < 157 + c
      · rw [fa_i y, fa_i (by omega)]
      · rw [fa_n y, fa_n (by omega)]
end PU
/-! PURE: an ENTRY's own HEAD and DATA on both sides -/
def By (f : Nat → Int32) : Prop := ∀ j, f j &&& 255 = f j
theorem By.fa {f k : Nat → Int32} {p n : Nat} (h : By f) (e : ∀ j, j < n → k j &&& 255 = k j) : By (fa f p n k) := by
  intro j
  by_cases q : p ≤ j ∧ j < p + n
  · rw [fa_i q]
    exact e _ (by omega)
  · rw [fa_n q]
    exact h j
theorem By.up {f : Nat → Int32} {i : Nat} {x : Int32} (h : By f) (e : x &&& 255 = x) : By (upd f i x) := by
  intro j
  by_cases q : j = i
  · subst q
    rw [updI_s]
    exact e
  · rw [updI_n _ _ q]
    exact h j
theorem oF_b (k n j : Nat) : oF k n j &&& 255 = oF k n j := by
  unfold oF
  split
  · decide
  · exact oD_b _ _ _
theorem By.mg {f : Nat → Int32} (x : Nat) (h : By f) : By (mgF x f) := by
  unfold mgF
  repeat' split
  · exact h.fa (by decide)
  · exact h
  · exact h.fa (by decide)
theorem By.nu {f : Nat → Int32} {x p n : Nat} {V : Int64} (h : By f) : By (nuM x V p n f) := by
  unfold nuM
  repeat' split
  · exact h.fa (fun j _ => oF_b _ _ _)
  · exact h.fa (fun j _ => xB_b _ _ _)
  · exact h.fa (fun j _ => oF_b _ _ _)
theorem By.ns {f nb : Nat → Int32} {ns s : Nat} (h : By f) (e : ∀ j, j < ns → nb j &&& 255 = nb j) (hs : s ≤ ns) : By (nsF ns s nb f) := by
  unfold nsF
  split
  · exact h.fa (fun j hj => e j (by omega))
  · exact (h.fa (fun j hj => e j (by omega))).fa (fun j hj => e _ (by omega))
theorem By.lk {f lb : Nat → Int32} {ls : Nat} (h : By f) (e : ∀ j, j < ls → lb j &&& 255 = lb j) : By (lkF ls lb f) := h.fa (fun j hj => e j (by omega))
theorem By.z : By (fun _ => 0) := fun _ => show (0 : Int32) &&& 255 = 0 by decide
theorem hdM_b {x : Nat} {kd : Int32} {k sz : Nat} {U Gd T : Int64} {ns s : Nat} {nb : Nat → Int32} {ls : Nat} {lb : Nat → Int32} (hkd : kd &&& 255 = kd) (hn : ∀ j, j < ns → nb j &&& 255 = nb j) (hl : ∀ j, j < ls → lb j &&& 255 = lb j) (hs : s ≤ ns) : By (hdM x kd k sz U Gd T ns s nb ls lb) := by
  have h0 : By (bhM x kd k sz) := By.mg x (((((((By.z).fa (fun j _ => oF_b _ _ _)).fa (fun j _ => oF_b _ _ _)).fa (fun j _ => oF_b _ _ _)).fa (fun j _ => oF_b _ _ _)).fa (fun j _ => oF_b _ _ _)).up hkd)
  exact (((h0.nu).nu).nu.ns hn hs).lk hl
theorem seal_e {f f' : Nat → Int32} {T : Nat} (e : ∀ j, j < 512 → ¬ (148 ≤ j ∧ j < 156) → f j = f' j) : ∀ j, j < 512 → sealF T f j = sealF T f' j := by
  unfold sealF
  refine upd_c (fun j hj q155 => ?_)
  by_cases q154 : j = 154
  · subst q154
    rw [updI_s, updI_s]
  · rw [updI_n _ _ q154, updI_n _ _ q154]
    by_cases q : 148 ≤ j ∧ j < 148 + 6
    · rw [fa_i q, fa_i q]
    · rw [fa_n q, fa_n q]
      exact e j hj (by omega)
theorem sm_fa {g f : Nat → Int32} {p : Nat} : smI (fun j => fa g p 512 f (p + j)) 512 = smI f 512 := by
  refine smI_c (fun j hj _ => ?_) 512 (Nat.le_refl _)
  show fa g p 512 f (p + j) = f j
  rw [fa_i (by omega), show p + j - p = j by omega]
theorem seal_fa {g f : Nat → Int32} {p T : Nat} : upd (upd (fa (fa g p 512 f) (p + 148) 6 (oD T 6)) (p + 154) 0) (p + 155) 32 = fa g p 512 (sealF T f) := by
  rw [fa_fa (by decide), fa_upd (by decide), fa_upd (by decide)]
  rfl
/-- a HEAD, DATA, and what fills the BLOCK -/
def ENT (g : Nat → Int32) (u : Nat) (hd : Nat → Int32) (sz : Nat) (D : Nat → Int32) : Nat → Int32 := fa (fa (fa g u 512 hd) (u + 512) sz D) (u + 512 + sz) (fl (u + 512 + sz) - (u + 512 + sz)) (fun _ => 0)
section EN
variable {v : Nat → Nat} {G0 G G' : gH} {m : Nat} {I : Nat → Int32} {J : Int64} {A : Nat → Nat → Int32} {B : Nat → Nat → Int64} {d w a cap u wv : Nat} {g h : Nat → Int32} {x1 x2 : Value}
theorem g_put84 {e x k sz ns ls T : Nat} {kd sp sd : Int32} {nb lb : Nat → Int32} (q : WG G0 m I J A B d w g h G) (he : e < 8) (hx : x < 4) (hkd : A 2 e = kd) (hk : B 7 (5 * e) = lN k) (hk2 : k < 2 ^ 63) (hsz : A 8 e = nI sz) (hsz2 : sz ≤ 4000) (hsd : A 9 e = sd) (hs : A 4 e = nI ns) (hs1 : 1 ≤ ns) (hs2 : ns ≤ 400) (hnb : ∀ j, j < ns → A 3 (400 * e + j) = nb j) (hl : A 6 e = nI ls) (hl2 : ls ≤ 400) (hlb : ∀ j, j < ls → A 5 (400 * e + j) = lb j) (hsp : SpR nb ns sp) (hd : d + 512 + sz + 512 ≤ 120000) (hT : smI (hdM x kd k sz (B 7 (5 * e + 1)) (B 7 (5 * e + 2)) (B 7 (5 * e + 3)) ns (spN x ns sp) nb ls lb) 512 = nI T) (hT2 : T < 2 ^ 31) : Ok (WG G0 m I J A B (fl (d + 512 + sz)) w (ENT g d (sealF T (hdM x kd k sz (B 7 (5 * e + 1)) (B 7 (5 * e + 2)) (B 7 (5 * e + 3)) ns (spN x ns sp) nb ls lb)) sz (dB sd)) h) (jX11_put_84 v G m (nI e) (nI x)) := by
  have n0 : (5 : Int32) * nI e = nI (5 * e) := by rw [show (5 : Int32) = nI 5 from rfl, nI_mul]
  unfold jX11_put_84
  refine Ok.e (q.wr.r 3 2 rfl (by decide)) ?_
  refine Ok.e (q.wr.ld 2 ⟨by decide, by decide, rfl, by decide, by decide⟩ rfl rfl (show e < 9 by omega)) ?_
  refine Ok.e (q.wr.r 8 7 rfl (by decide)) ?_
  refine Ok.e (q.wr.ldl 7 ⟨by decide, by decide, rfl⟩ n0 (show _ < 45 by omega)) ?_
  refine Ok.e (q.wr.r 9 8 rfl (by decide)) ?_
  refine Ok.e (q.wr.ld 8 ⟨by decide, by decide, rfl, by decide, by decide⟩ rfl rfl (show e < 9 by omega)) ?_
  rw [hkd, hk, hsz, nI_l (by omega)]
  refine Ok.b (g_head q hx hk2 (by omega) (by omega)) (fun r hr => ?_)
  obtain ⟨hr1, q1⟩ := hr
  rw [hr1, show nI d + (108 : Int32) = nI (d + 108) from nI_add d 108, show nI d + (116 : Int32) = nI (d + 116) from nI_add d 116, show nI d + (136 : Int32) = nI (d + 136) from nI_add d 136, show (8 : Int32) = nI 8 from rfl, show (12 : Int32) = nI 12 from rfl]
  refine Ok.e (q1.wr.r 8 7 rfl (by decide)) ?_
  refine Ok.e (q1.wr.ldl 7 ⟨by decide, by decide, rfl⟩ (ix5 e 1) (show _ < 45 by omega)) ?_
  refine Ok.b (g_number q1 (p := 108) (n := 8) hx (by decide) (by decide) (by decide) (by omega) (by omega)) (fun G2 q2 => ?_)
  refine Ok.e (q2.wr.r 8 7 rfl (by decide)) ?_
  refine Ok.e (q2.wr.ldl 7 ⟨by decide, by decide, rfl⟩ (ix5 e 2) (show _ < 45 by omega)) ?_
  refine Ok.b (g_number q2 (p := 116) (n := 8) hx (by decide) (by decide) (by decide) (by omega) (by omega)) (fun G3 q3 => ?_)
  refine Ok.e (q3.wr.r 8 7 rfl (by decide)) ?_
  refine Ok.e (q3.wr.ldl 7 ⟨by decide, by decide, rfl⟩ (ix5 e 3) (show _ < 45 by omega)) ?_
  refine Ok.b (g_number q3 (p := 136) (n := 12) hx (by decide) (by decide) (by decide) (by omega) (by omega)) (fun G4 q4 => ?_)
  -- SUM, DATA
  have f364 : ∀ G', WG G0 m I J A B (d + 512) w (fa g d 512 (hdM x kd k sz (B 7 (5 * e + 1)) (B 7 (5 * e + 2)) (B 7 (5 * e + 3)) ns (spN x ns sp) nb ls lb)) h G' → Ok (WG G0 m I J A B (fl (d + 512 + sz)) w (ENT g d (sealF T (hdM x kd k sz (B 7 (5 * e + 1)) (B 7 (5 * e + 2)) (B 7 (5 * e + 3)) ns (spN x ns sp) nb ls lb)) sz (dB sd)) h) (jX11_put_364 v G' m (nI e) (nI d)) := by
    intro G' q'
    unfold jX11_put_364
    refine Ok.b (g_endHead q' (p := d) (T := T) (by omega) (by omega) (sm_fa.trans hT) hT2) (fun G5 q5 => ?_)
    rw [seal_fa] at q5
    exact g_data q5 he hsz hsd (by omega) (by omega)
  have f314 : ∀ G', WG G0 m I J A B (d + 512) w (fa g d 512 (nsF ns (spN x ns sp) nb (nuM x (B 7 (5 * e + 3)) 136 12 (nuM x (B 7 (5 * e + 2)) 116 8 (nuM x (B 7 (5 * e + 1)) 108 8 (bhM x kd k sz)))))) h G' → Ok (WG G0 m I J A B (fl (d + 512 + sz)) w (ENT g d (sealF T (hdM x kd k sz (B 7 (5 * e + 1)) (B 7 (5 * e + 2)) (B 7 (5 * e + 3)) ns (spN x ns sp) nb ls lb)) sz (dB sd)) h) (lX11_put_314 v gFu G' m (nI e) (nI d) 0) := by
    intro G' q'
    refine g_314 (lb := lb) he hl hl2 hlb (Nat.le_refl _) (by omega) f364 (min ls 100) 0 gFu G' (by omega) (by unfold gFu; omega) ?_
    rw [fa_0]
    exact q'
  have f205 : ∀ z0 : Int32, ((z0 = -1 ∧ spN x ns sp = 0) ∨ (z0 = nI (spN x ns sp) ∧ SpK nb ns (spN x ns sp))) → Ok (WG G0 m I J A B (fl (d + 512 + sz)) w (ENT g d (sealF T (hdM x kd k sz (B 7 (5 * e + 1)) (B 7 (5 * e + 2)) (B 7 (5 * e + 3)) ns (spN x ns sp) nb ls lb)) sz (dB sd)) h) (jX11_put_205 v G4 m (nI e) (nI d) z0) := by
    intro z0 hz
    unfold jX11_put_205
    refine Ok.e rfl ?_
    rcases hz with ⟨rfl, hz⟩ | ⟨rfl, hz⟩
    · rw [show (-1 : Int32) + 1 = nI 0 from by decide]
      refine g_217 (nb := nb) (fr := 0) he hs hs2 hnb (by omega) (Nat.le_refl _) (by omega) (fun G' q' => ?_) (min (ns - 0) 100) 0 gFu G4 (by omega) (by unfold gFu; omega) (by rw [fa_0]; exact q4)
      unfold jX11_put_269
      rw [gFu_1]
      show Ok _ (bX11_put_272 v (lX11_put_272 v 8589934591) G' m (nI e) (nI d) (-1) 0)
      unfold bX11_put_272
      refine Ok.i (fun _ => f314 G' ?_) (fun z => absurd (by decide) z)
      refine q'.c (fun j hj => ?_) (fun _ _ => rfl)
      refine fa_c (N := d + 512) (fun _ _ _ => rfl) (fun j hj => ?_) j hj
      unfold nsF
      rw [if_pos hz]
      refine fa_c (N := 512) (fun _ _ _ => rfl) (fun j hj => ?_) j hj
      rw [Nat.zero_add]
    · obtain ⟨s, hss⟩ : ∃ s, s = spN x ns sp := ⟨_, rfl⟩
      rw [← hss] at hz f314 ⊢
      obtain ⟨k1, k2, k3, k4, k5⟩ := hz
      rw [nI_1]
      refine g_217 (nb := nb) (fr := s + 1) he hs hs2 hnb (by omega) (Nat.le_refl _) (by omega) (fun G' q' => ?_) (min (ns - (s + 1)) 100) 0 gFu G4 (by omega) (by unfold gFu; omega) (by rw [fa_0]; exact q4)
      unfold jX11_put_269
      refine g_272 (nb := nb) (s := s) he (by omega) (fun j hj => hnb j (by omega)) (Nat.le_refl _) (by omega) (fun G'' q'' => f314 G'' ?_) s 0 gFu G' (by omega) (by unfold gFu; omega) (by rw [fa_0]; exact q')
      refine q''.c (fun j hj => ?_) (fun _ _ => rfl)
      refine fa_c (N := d + 512) (fun _ _ _ => rfl) (fun j hj => ?_) j hj
      unfold nsF
      rw [if_neg (by omega), fa_comm (by omega), Nat.min_eq_left (by omega)]
  have hz1 : spN x ns (-1) = 0 := by
    unfold spN
    rw [if_neg (fun z => z.2.2 (by decide))]
  refine Ok.e (q4.wr.r 5 4 rfl (by decide)) ?_
  refine Ok.e (q4.wr.ld 4 ⟨by decide, by decide, rfl, by decide, by decide⟩ rfl rfl (show e < 9 by omega)) ?_
  rw [hs]
  have f204 : ¬ (100 < ns ∧ (x = 1 ∨ x = 2)) → Ok (WG G0 m I J A B (fl (d + 512 + sz)) w (ENT g d (sealF T (hdM x kd k sz (B 7 (5 * e + 1)) (B 7 (5 * e + 2)) (B 7 (5 * e + 3)) ns (spN x ns sp) nb ls lb)) sz (dB sd)) h) (jX11_put_204 v G4 m (nI e) (nI d)) := by
    intro c
    unfold jX11_put_204
    refine f205 (-1) (Or.inl ⟨rfl, ?_⟩)
    unfold spN
    rw [if_neg (fun z => c ⟨z.1, z.2.1⟩)]
  have f196 : 100 < ns → (x = 1 ∨ x = 2) → Ok (WG G0 m I J A B (fl (d + 512 + sz)) w (ENT g d (sealF T (hdM x kd k sz (B 7 (5 * e + 1)) (B 7 (5 * e + 2)) (B 7 (5 * e + 3)) ns (spN x ns sp) nb ls lb)) sz (dB sd)) h) (jX11_put_196 v G4 m (nI e) (nI d)) := by
    intro c1 c2
    unfold jX11_put_196
    have hso : fX11_splitOf v G4 m (nI e) = some sp := by
      obtain ⟨I', A', h1, h2, h3, h4, h5, h6, h7, h8⟩ := q4
      obtain ⟨r, er, hr⟩ := m_splitOf (v := v) h1 he (by rw [h3 4 (by decide) (by decide)]; exact hs) hs2
      rw [er, (hr.c (fun j hj => by rw [h3 3 (by decide) (by decide)]; exact hnb j hj)).u hsp]
    refine Ok.e hso ?_
    rcases hsp with ⟨s1, -⟩ | ⟨s, s1, s2, -⟩
    · refine f205 sp (Or.inl ⟨s1, ?_⟩)
      rw [s1]
      exact hz1
    · have es : spN x ns sp = s := by
        unfold spN
        have hs155 := s2.2.1
        have hs0 := s2.1
        rw [if_pos ⟨c1, c2, by rw [s1]; exact nI_nle (by omega) (by omega)⟩, s1, nI_toInt (by omega)]
        rfl
      refine f205 sp (Or.inr ⟨?_, ?_⟩)
      · rw [es]
        exact s1
      · rw [es]
        exact s2
  refine Ok.i (fun c => f204 (fun z => by have := (j100 (by omega)).mp c; omega)) (fun c => ?_)
  have c' : 100 < ns := by
    rcases Nat.lt_or_ge 100 ns with z | z
    · exact z
    · exact absurd ((j100 (by omega)).mpr z) c
  refine Ok.i (fun c1 => f196 c' (Or.inl ((nI_eq (b := 1) (by omega) (by decide)).mp c1))) (fun c1 => ?_)
  refine Ok.i (fun c2 => f196 c' (Or.inr ((nI_eq (b := 2) (by omega) (by decide)).mp c2))) (fun c2 => f204 (fun z => ?_))
  rcases z.2 with y | y
  · exact c1 (by rw [y]; rfl)
  · exact c2 (by rw [y]; rfl)
/-- the class: the ENTRY's own HEAD and DATA -/
theorem k_hd {F g : Nat → Int32} {u T : Nat} (h : smI F 512 = nI T) : smI (fun j => fa g u 512 F (u + j)) 512 = nI T := sm_fa.trans h
set_option maxHeartbeats 2000000 in
theorem k_app35 {ea nr lr ar x k sz ns ls T : Nat} {kd sp sd : Int32} {nb lb : Nat → Int32} {U Gd Tm na : Int64} {pn : Nat → Int64} (hne : wv ≠ a) (hea : ea ≠ a) (hnr : nr ≠ a) (hlr : lr ≠ a) (har : ar ≠ a + 1) (o : G.2.1 wv = some (2, [.ref a, x1, x2])) (oe : G.2.1 ea = some (3, [.ref nr, .ref lr, .ref ar, .int kd, .int (nI sz), .int sd])) (oa : G.1 ar = some (.long, true, 5, fun j => .long (pn j))) (p0 : pn 0 = lN k) (p1 : pn 1 = U) (p2 : pn 2 = Gd) (p3 : pn 3 = Tm) (rb : RowB G a cap u g) (rn : RowB G nr 400 ns nb) (rl : RowB G lr 400 ls lb) (mg : Mgs v a G) (hx : x < 4) (hk2 : k < 2 ^ 63) (hsz2 : sz ≤ 4000) (hkd : kd &&& 255 = kd) (hsp : SpR nb ns sp) (hu : fl (u + 512 + sz) ≤ cap) (hu2 : u + 512 < 2 ^ 28) (hT : smI (hdC x kd k sz U Gd Tm ns (spN x ns sp) nb ls lb) 512 = nI T) (hT2 : T < 2 ^ 31) : ∃ G', jX2_append_35 v G wv ea (nI x) = some G' ∧ Fr2 G G' a ∧ RowB G' a cap (fl (u + 512 + sz)) (ENT g u (sealF T (hdC x kd k sz U Gd Tm ns (spN x ns sp) nb ls lb)) sz (dB sd)) := by
  have hfl := fl_le (u + 512 + sz)
  unfold hdC at hT ⊢
  have ld : ∀ {H : gH}, Fr2 G H a → ∀ j, j < 5 → gLdJ H ar (nI j) = some (pn j) := fun fr j hj => ld_lng (by rw [fr.2.1 ar har]; exact oa) hj (by decide) rfl
  obtain ⟨G1, e1, r1, b1⟩ := k_beginHead (v := v) (k := k) (sz := sz) hne o rb mg hx hk2 (by omega) hkd (by omega) (by omega)
  have o1 := r1.ob hne o
  have oe1 := r1.ob hea oe
  obtain ⟨G2, e2, r2, b2⟩ := k_setNames (v := v) hne hea hnr hlr o1 oe1 b1 (rn.fr r1 hnr) (rl.fr r1 hlr) hsp hx (by omega)
  have f2 := r1.tr r2
  have o2 := r2.ob hne o1
  obtain ⟨G3, e3, r3, b3⟩ := k_setNumber (v := v) (p := 108) (n := 8) (V := U) hne o2 b2 hx (by decide) (by decide) (by decide) (by omega)
  have f3 := f2.tr r3
  have o3 := r3.ob hne o2
  obtain ⟨G4, e4, r4, b4⟩ := k_setNumber (v := v) (p := 116) (n := 8) (V := Gd) hne o3 b3 hx (by decide) (by decide) (by decide) (by omega)
  have f4 := f3.tr r4
  have o4 := r4.ob hne o3
  obtain ⟨G5, e5, r5, b5⟩ := k_setNumber (v := v) (p := 136) (n := 12) (V := Tm) hne o4 b4 hx (by decide) (by decide) (by decide) (by omega)
  have f5 := f4.tr r5
  have o5 := r5.ob hne o4
  obtain ⟨G6, e6, r6, b6⟩ := k_seal (v := v) (p := u) (T := T) hne o5 b5 (by omega) (by omega) (k_hd hT) hT2
  rw [seal_fa] at b6
  have f6 := f5.tr r6
  have o6 := r6.ob hne o5
  have oe6 := f6.ob hea oe
  obtain ⟨G7, e7, r7, b7⟩ := k_data (v := v) hne hea o6 oe6 b6 (by omega) hu (by omega)
  refine ⟨G7, ?_, f6.tr r7, b7⟩
  unfold jX2_append_35
  rw [gI_at oe (k := 3) (x := kd) rfl, Option.bind_some, gR_at oe (k := 2) (x := ar) rfl, Option.bind_some, show gLdJ G ar 0 = _ from ld Fr2.rf 0 (by decide), Option.bind_some, gI_at oe (k := 4) (x := nI sz) rfl, Option.bind_some, p0, e1, Option.bind_some, e2, Option.bind_some, gR_at (f2.ob hea oe) (k := 2) (x := ar) rfl, Option.bind_some, show gLdJ G2 ar 1 = _ from ld f2 1 (by decide), Option.bind_some, p1, show nI u + (108 : Int32) = nI (u + 108) from nI_add u 108, show (8 : Int32) = nI 8 from rfl, e3, Option.bind_some, gR_at (f3.ob hea oe) (k := 2) (x := ar) rfl, Option.bind_some, show gLdJ G3 ar 2 = _ from ld f3 2 (by decide), Option.bind_some, p2, show nI u + (116 : Int32) = nI (u + 116) from nI_add u 116, e4, Option.bind_some, gR_at (f4.ob hea oe) (k := 2) (x := ar) rfl, Option.bind_some, show gLdJ G4 ar 3 = _ from ld f4 3 (by decide), Option.bind_some, p3, show nI u + (136 : Int32) = nI (u + 136) from nI_add u 136, show (12 : Int32) = nI 12 from rfl, e5, Option.bind_some, e6, Option.bind_some]
  exact e7
end EN
