/-! PURE: which FAMILIES an ENTRY is of, on both sides -/
def bI (x : Bool) : Int32 := if x then 1 else 0
def fitB (x : Int64) (w : Int32) : Bool := decide (¬ x < 0 ∧ ¬ ((1 : Int64) <<< (((3 : Int32) * (w - (1 : Int32))).toInt64 &&& 63)) ≤ x)
theorem fits_e {v : Nat → Nat} {G : gH} (x : Int64) (w : Int32) : fX11_fits v G x w = some (bI (fitB x w)) := by
  unfold fX11_fits
  by_cases h0 : x < 0
  · have e : fitB x w = false := decide_eq_false (fun q => q.1 h0)
    rw [if_pos h0, gZ_0, Option.bind_some, e]
    rfl
  · rw [if_neg h0]
    by_cases h1 : ((1 : Int64) <<< (((3 : Int32) * (w - (1 : Int32))).toInt64 &&& 63)) ≤ x
    · have e : fitB x w = false := decide_eq_false (fun q => q.2 h1)
      rw [if_pos h1, gZ_0, Option.bind_some, e]
      rfl
    · have e : fitB x w = true := decide_eq_true ⟨h0, h1⟩
      rw [if_neg h1, gZ_1, Option.bind_some, e]
      rfl
theorem fits_c {v : Nat → Nat} {G : gH} (x : Int64) (w : Int32) : fX3_fits v G x w = some (bI (fitB x w)) := by
  rw [← fits_e (v := v) (G := G)]
  rfl
/-- where a NAME is parted -/
def SpK (f : Nat → Int32) (n k : Nat) : Prop := 1 ≤ k ∧ k ≤ 155 ∧ k + 2 ≤ n ∧ n - 1 - k ≤ 100 ∧ f k = 47
def SpR (f : Nat → Int32) (n : Nat) (r : Int32) : Prop := (r = -1 ∧ ∀ k, ¬ SpK f n k) ∨ ∃ j, r = nI j ∧ SpK f n j ∧ ∀ k, j < k → ¬ SpK f n k
theorem SpR.u {f : Nat → Int32} {n : Nat} {r s : Int32} (h : SpR f n r) (k : SpR f n s) : r = s := by
  rcases h with ⟨h1, h2⟩ | ⟨j, h1, h2, h3⟩
  · rcases k with ⟨k1, k2⟩ | ⟨i, k1, k2, k3⟩
    · rw [h1, k1]
    · exact absurd k2 (h2 i)
  · rcases k with ⟨k1, k2⟩ | ⟨i, k1, k2, k3⟩
    · exact absurd h2 (k2 j)
    · rcases Nat.lt_trichotomy i j with z | z | z
      · exact absurd h2 (k3 j z)
      · rw [h1, k1, z]
      · exact absurd k2 (h3 i z)
theorem SpR.c {f g : Nat → Int32} {n : Nat} {r : Int32} (h : SpR f n r) (e : ∀ j, j < n → f j = g j) : SpR g n r := by
  have a : ∀ k, SpK f n k ↔ SpK g n k := fun k => by
    constructor
    · intro q
      exact ⟨q.1, q.2.1, q.2.2.1, q.2.2.2.1, by rw [← e k (by have := q.2.2.1; omega)]; exact q.2.2.2.2⟩
    · intro q
      exact ⟨q.1, q.2.1, q.2.2.1, q.2.2.2.1, by rw [e k (by have := q.2.2.1; omega)]; exact q.2.2.2.2⟩
  rcases h with ⟨h1, h2⟩ | ⟨j, h1, h2, h3⟩
  · exact Or.inl ⟨h1, fun k q => h2 k ((a k).mpr q)⟩
  · exact Or.inr ⟨j, h1, (a j).mp h2, fun k hk q => h3 k hk ((a k).mpr q)⟩
section OA
variable {v : Nat → Nat} {G : gH} {b m : Nat} {O : Nat → Nat → Int32} {P : Nat → Nat → Int64} {I : Nat → Int32} {J : Int64} {A : Nat → Nat → Int32} {B : Nat → Nat → Int64}
theorem k_splitR {ea nr cap ns : Nat} {f0 : Nat → Int32} {fs : List Value} (hen : G.2.1 ea = some (3, fs)) (hf0 : fs[0]? = some (.ref nr)) (r1 : RowAt G nr cap ns f0) (hs2 : ns ≤ 400) : ∃ r, fX3_split v G ea = some r ∧ SpR (fun k => f0 k &&& 255) ns r := by
  have c1 : ∀ k, ¬ nI (k + 1) < (1 : Int32) ∨ 2 ^ 31 ≤ k + 1 := fun k => by
    rcases Nat.lt_or_ge (k + 1) (2 ^ 31) with z | z
    · exact Or.inl (Int32.not_lt.mpr (nI_le (a := 1) (by omega) z))
    · exact Or.inr z
  have lp : ∀ (k f : Nat), k < f → k ≤ 155 → (k + 2 ≤ ns ∨ k = 0) → (∀ l, k < l → ¬ SpK (fun k => f0 k &&& 255) ns l) → ∃ r, lX3_split_18 v G f ea (nI ns) (nI k) = some r ∧ SpR (fun k => f0 k &&& 255) ns r := by
    intro k
    induction k with
    | zero =>
      intro f hf _ _ hk
      obtain ⟨f, rfl⟩ : ∃ f', f = f' + 1 := ⟨f - 1, by omega⟩
      refine ⟨-1, ?_, Or.inl ⟨rfl, fun l q => hk l q.1 q⟩⟩
      show bX3_split_18 v G (lX3_split_18 v G f) _ (nI ns) (nI 0) = _
      unfold bX3_split_18
      rw [if_pos (by decide)]
    | succ k ih =>
      intro f hf h155 hn hk
      obtain ⟨f, rfl⟩ : ∃ f', f = f' + 1 := ⟨f - 1, by omega⟩
      have hn2 : k + 1 + 2 ≤ ns := by omega
      have e1 : nI ns - 1 - nI (k + 1) = nI (ns - 1 - (k + 1)) := by
        rw [show nI ns - 1 = nI (ns - 1) from pk_sub (a := ns) (b := 1) (by omega), pk_sub (by omega)]
      have cc : ¬ nI (k + 1) < (1 : Int32) := (c1 k).resolve_right (by omega)
      by_cases c : 100 < ns - 1 - (k + 1)
      · refine ⟨-1, ?_, Or.inl ⟨rfl, fun l q => ?_⟩⟩
        · show bX3_split_18 v G (lX3_split_18 v G f) _ (nI ns) (nI (k + 1)) = _
          unfold bX3_split_18
          rw [if_neg cc, e1, if_pos (show (100 : Int32) < nI (ns - 1 - (k + 1)) from Int32.not_le.mp (nI_ge (a := 100) c (by omega)))]
        · rcases Nat.lt_or_ge (k + 1) l with z | z
          · exact hk l z q
          · obtain ⟨_, _, _, q4, _⟩ := q
            omega
      · have cn : ¬ (100 : Int32) < nI (ns - 1 - (k + 1)) := Int32.not_lt.mpr (nI_le (b := 100) (by omega) (by decide))
        by_cases c2 : f0 (k + 1) &&& 255 = 47
        · refine ⟨nI (k + 1), ?_, Or.inr ⟨k + 1, rfl, ⟨by omega, h155, hn2, by omega, c2⟩, hk⟩⟩
          show bX3_split_18 v G (lX3_split_18 v G f) _ (nI ns) (nI (k + 1)) = _
          unfold bX3_split_18
          rw [if_neg cc, e1, if_neg cn, gR_at hen hf0, Option.bind_some, r_at r1, Option.bind_some, rAt_in (by omega) (by omega), if_pos c2]
        · obtain ⟨r, er, hr⟩ := ih f (by omega) (by omega) (by omega) (fun l hl q => by
            rcases Nat.lt_or_ge (k + 1) l with z | z
            · exact hk l z q
            · have : l = k + 1 := by omega
              subst this
              exact c2 q.2.2.2.2)
          refine ⟨r, ?_, hr⟩
          show bX3_split_18 v G (lX3_split_18 v G f) _ (nI ns) (nI (k + 1)) = _
          unfold bX3_split_18
          rw [if_neg cc, e1, if_neg cn, gR_at hen hf0, Option.bind_some, r_at r1, Option.bind_some, rAt_in (by omega) (by omega), if_neg c2, Option.bind_some, show nI (k + 1) + (-1) = nI k from nI_sub1 (Nat.succ_pos k)]
          exact er
  have start : fX3_split v G ea = lX3_split_18 v G gFu ea (nI ns) (if (nI ns - 2) < (155 : Int32) then (nI ns - 2) else (155 : Int32)) := by
    unfold fX3_split
    rw [gOb_at hen, Option.bind_some, gR_at hen hf0, Option.bind_some, r_count r1, Option.bind_some, Option.bind_some]
  rcases Nat.lt_or_ge ns 2 with z | z
  · have none : ∀ l, ¬ SpK (fun k => f0 k &&& 255) ns l := fun l q => by
      obtain ⟨_, _, q3, _, _⟩ := q
      omega
    refine ⟨-1, ?_, Or.inl ⟨rfl, none⟩⟩
    rw [start, gFu_1]
    have neg : (if (nI ns - 2) < (155 : Int32) then (nI ns - 2) else (155 : Int32)) < 1 := by
      rcases (show ns = 0 ∨ ns = 1 by omega) with rfl | rfl <;> decide
    show bX3_split_18 v G (lX3_split_18 v G 8589934591) _ (nI ns) _ = _
    unfold bX3_split_18
    rw [if_pos neg]
  · have e2 : nI ns - 2 = nI (ns - 2) := pk_sub (a := ns) (b := 2) z
    rcases Nat.lt_or_ge (ns - 2) 155 with w | w
    · obtain ⟨r, er, hr⟩ := lp (ns - 2) gFu (by unfold gFu; omega) (by omega) (by omega) (fun l hl q => by
        obtain ⟨_, _, q3, _, _⟩ := q
        omega)
      refine ⟨r, ?_, hr⟩
      rw [start, e2, if_pos (show nI (ns - 2) < (155 : Int32) from Int32.not_le.mp (nI_ge (b := 155) w (by decide)))]
      exact er
    · obtain ⟨r, er, hr⟩ := lp 155 gFu (by unfold gFu; omega) (by omega) (by omega) (fun l hl q => by
        obtain ⟨_, q2, _, _, _⟩ := q
        omega)
      refine ⟨r, ?_, hr⟩
      rw [start, e2, if_neg (show ¬ nI (ns - 2) < (155 : Int32) from Int32.not_lt.mpr (nI_le (a := 155) w (by omega)))]
      exact er
theorem k_split {i ns : Nat} (h : CAt G b O P) (hi : i < 9) (hs : O (266 + 6 * i + 1) 1 = nI ns) (hs2 : ns ≤ 400) : ∃ r, fX3_split v G (b + (266 + 6 * i)) = some r ∧ SpR (fun k => O (266 + 6 * i + 1 + 1) k &&& 255) ns r := by
  have r1 := h.rt (rkE1 (ekI hi)) hs (by omega)
  rw [show b + (266 + 6 * i + 1) = b + (266 + 6 * i) + 1 by omega] at r1
  exact k_splitR (h.en hi) rfl r1 hs2
def Bst (f : Nat → Int32) (n k : Nat) (y : Int32) : Prop := (y = -1 ∧ ∀ l, l < k → ¬ SpK f n l) ∨ ∃ j, j < k ∧ y = nI j ∧ SpK f n j ∧ ∀ l, j < l → l < k → ¬ SpK f n l
theorem Bst.e {f : Nat → Int32} {n k : Nat} {y : Int32} (h : Bst f n k y) (hk : ∀ l, k ≤ l → ¬ SpK f n l) : SpR f n y := by
  rcases h with ⟨h1, h2⟩ | ⟨j, h0, h1, h2, h3⟩
  · exact Or.inl ⟨h1, fun l => (Nat.lt_or_ge l k).elim (h2 l) (hk l)⟩
  · exact Or.inr ⟨j, h1, h2, fun l hl => (Nat.lt_or_ge l k).elim (h3 l hl) (hk l)⟩
theorem Bst.n {f : Nat → Int32} {n k : Nat} {y : Int32} (h : Bst f n k y) (hk : ¬ SpK f n k) : Bst f n (k + 1) y := by
  have a : ∀ l, l < k + 1 → l < k ∨ l = k := fun l hl => by omega
  rcases h with ⟨h1, h2⟩ | ⟨j, h0, h1, h2, h3⟩
  · exact Or.inl ⟨h1, fun l hl => (a l hl).elim (h2 l) (fun z => by rw [z]; exact hk)⟩
  · exact Or.inr ⟨j, by omega, h1, h2, fun l hl hl2 => (a l hl2).elim (h3 l hl) (fun z => by rw [z]; exact hk)⟩
theorem Bst.s {f : Nat → Int32} {n k : Nat} (hk : SpK f n k) : Bst f n (k + 1) (nI k) := Or.inr ⟨k, by omega, rfl, hk, fun l h1 h2 => absurd h1 (by omega)⟩
theorem m_splitOf (h : MAt G m I J A B) {e ns : Nat} (he : e < 8) (hs : A 4 e = nI ns) (hs2 : ns ≤ 400) : ∃ r, fX11_splitOf v G m (nI e) = some r ∧ SpR (fun k => A 3 (400 * e + k)) ns r := by
  have lp : ∀ (d k f : Nat) (y : Int32), k + d = 156 → d < f → 1 ≤ k → Bst (fun k => A 3 (400 * e + k)) ns k y → ∃ r, lX11_splitOf_4 v G f m (nI e) y (nI k) = some r ∧ SpR (fun k => A 3 (400 * e + k)) ns r := by
    intro d
    induction d with
    | zero =>
      intro k f y hk hf h1 hB
      obtain ⟨f, rfl⟩ : ∃ f', f = f' + 1 := ⟨f - 1, by omega⟩
      obtain rfl : k = 156 := by omega
      refine ⟨y, ?_, hB.e (fun l hl q => by
        obtain ⟨_, q2, _, _, _⟩ := q
        omega)⟩
      show bX11_splitOf_4 v G (lX11_splitOf_4 v G f) m (nI e) y (nI 156) = _
      unfold bX11_splitOf_4
      rw [h.r 5 4 rfl (by decide), Option.bind_some, h.ld 4 (ty := .int) (j := e) ⟨by decide, by decide, rfl⟩ rfl (show _ < 9 by omega), Option.bind_some]
      by_cases c : A 4 e ≤ nI 156
      · rw [if_pos c]
      · rw [if_neg c, if_pos (by decide)]
    | succ d ih =>
      intro k f y hk hf h1 hB
      obtain ⟨f, rfl⟩ : ∃ f', f = f' + 1 := ⟨f - 1, by omega⟩
      have e0 : lX11_splitOf_4 v G (f + 1) m (nI e) y (nI k) = bX11_splitOf_4 v G (lX11_splitOf_4 v G f) m (nI e) y (nI k) := rfl
      rw [e0]
      unfold bX11_splitOf_4
      rw [h.r 5 4 rfl (by decide), Option.bind_some, h.ld 4 (ty := .int) (j := e) ⟨by decide, by decide, rfl⟩ rfl (show _ < 9 by omega), Option.bind_some, hs]
      by_cases c : ns ≤ k
      · refine ⟨y, ?_, hB.e (fun l hl q => by
          obtain ⟨_, _, q3, _, _⟩ := q
          omega)⟩
        rw [if_pos (nI_le c (by omega))]
      · have e1 : nI ns - nI k - 1 = nI (ns - k - 1) := by
          rw [pk_sub (by omega), show nI (ns - k) - 1 = nI (ns - k - 1) from pk_sub (a := ns - k) (b := 1) (by omega)]
        rw [if_neg (nI_ge (by omega) (by omega)), if_neg (show ¬ (155 : Int32) < nI k from Int32.not_lt.mpr (nI_le (b := 155) (by omega) (by decide))), Option.bind_some, h.ld 4 (ty := .int) (j := e) ⟨by decide, by decide, rfl⟩ rfl (show _ < 9 by omega), Option.bind_some, hs, Option.bind_some, h.r 4 3 rfl (by decide), Option.bind_some, ix400, h.ld 3 (ty := .int) (j := 400 * e + k) ⟨by decide, by decide, rfl⟩ rfl (show _ < 3600 by omega), Option.bind_some, e1]
        have f67 : ¬ SpK (fun k => A 3 (400 * e + k)) ns k → ∃ r, jX11_splitOf_67 v G (lX11_splitOf_4 v G f) m (nI e) y (nI k) = some r ∧ SpR (fun k => A 3 (400 * e + k)) ns r := by
          intro q
          unfold jX11_splitOf_67 jX11_splitOf_68
          rw [Option.bind_some, nI_1]
          exact ih (k + 1) f y (by omega) (by omega) (by omega) (hB.n q)
        by_cases c1 : A 3 (400 * e + k) = 47
        · rw [if_pos c1]
          by_cases c2 : ns - k - 1 < 1
          · rw [if_pos (show nI (ns - k - 1) < (1 : Int32) from Int32.not_le.mp (nI_ge (b := 1) c2 (by decide)))]
            exact f67 (fun q => by
              obtain ⟨_, _, q3, _, _⟩ := q
              omega)
          · rw [if_neg (show ¬ nI (ns - k - 1) < (1 : Int32) from Int32.not_lt.mpr (nI_le (a := 1) (by omega) (by omega)))]
            by_cases c3 : 100 < ns - k - 1
            · rw [if_pos (show (100 : Int32) < nI (ns - k - 1) from Int32.not_le.mp (nI_ge (a := 100) c3 (by omega)))]
              exact f67 (fun q => by
                obtain ⟨_, _, _, q4, _⟩ := q
                omega)
            · rw [if_neg (show ¬ (100 : Int32) < nI (ns - k - 1) from Int32.not_lt.mpr (nI_le (b := 100) (by omega) (by decide)))]
              unfold jX11_splitOf_68
              rw [Option.bind_some, nI_1]
              exact ih (k + 1) f (nI k) (by omega) (by omega) (by omega) (Bst.s ⟨h1, by omega, by omega, by omega, c1⟩)
        · rw [if_neg c1]
          exact f67 (fun q => c1 q.2.2.2.2)
  unfold fX11_splitOf
  rw [h.ob, Option.bind_some]
  exact lp 155 1 gFu (-1) (by omega) (by unfold gFu; omega) (by omega) (Or.inl ⟨rfl, fun l hl q => by
    obtain ⟨q1, _⟩ := q
    omega⟩)
/-- is it OF the FAMILY x -/
def plB (ls : Nat) (u g t na : Int64) : Bool := decide (ls ≤ 100) && (fitB u 8 && (fitB g 8 && (fitB t 12 && decide (na = 0))))
def flB (kd la : Int32) : Bool := decide (kd = 53) || (decide (kd = 48) && decide (la = 47))
def nfB (ns : Nat) (sp : Int32) : Bool := decide (ns ≤ 100) || decide (¬ sp ≤ 0)
def ofS (x : Nat) (kd : Int32) (ns ls : Nat) (la sp : Int32) (u g t na : Int64) : Bool := if x = 0 then !(flB kd la) && (decide (ns ≤ 100) && plB ls u g t na) else if x = 1 then nfB ns sp && plB ls u g t na else if x = 2 then true else decide (na = 0)
theorem bI_t : bI true = 1 := rfl
theorem bI_f : bI false = 0 := rfl
theorem i100 {n : Nat} (h : n < 2 ^ 31) : ((100 : Int32) < nI n) ↔ ¬ n ≤ 100 := by
  constructor
  · intro q z
    exact absurd (show nI n ≤ 100 from nI_le (b := 100) z (by decide)) (Int32.not_le.mpr q)
  · intro q
    exact Int32.not_le.mp (nI_ge (a := 100) (by omega) h)
theorem j100 {n : Nat} (h : n < 2 ^ 31) : (nI n ≤ (100 : Int32)) ↔ n ≤ 100 := nI_leI (b := 100) h (by decide)
theorem CAt.nu (h : CAt G b O P) {i j : Nat} (hi : i < 9) (hj : j < 5) : gLdJ G (b + (266 + 6 * i) + 5) (nI j) = some (P (266 + 6 * i + 5) j) := by
  rw [show b + (266 + 6 * i) + 5 = b + (266 + 6 * i + 5) by omega]
  exact ld_lng (h.a (266 + 6 * i + 5) (by omega) (cAr_e (ekI hi))) hj (by decide) rfl
theorem k_plain {i ls : Nat} (h : CAt G b O P) (hi : i < 9) (hl : O (266 + 6 * i + 3) 1 = nI ls) (hl2 : ls ≤ 400) : fX3_isPlain v G (b + (266 + 6 * i)) = some (bI (plB ls (P (266 + 6 * i + 5) 1) (P (266 + 6 * i + 5) 2) (P (266 + 6 * i + 5) 3) (P (266 + 6 * i + 5) 4))) := by
  have hen := h.en hi
  have r3 := h.rt (rkE3 (ekI hi)) hl (by omega)
  have g5 := gR_at hen (k := 2) (x := b + (266 + 6 * i) + 5) rfl
  unfold fX3_isPlain plB
  rw [gOb_at hen, Option.bind_some, gR_at hen (k := 1) (x := b + (266 + 6 * i) + 3) rfl, Option.bind_some, show b + (266 + 6 * i) + 3 = b + (266 + 6 * i + 3) by omega, r_count r3, Option.bind_some]
  by_cases c : ls ≤ 100
  · rw [if_neg (fun q => (i100 (by omega)).mp q c), decide_eq_true c, Bool.true_and, g5, Option.bind_some, show gLdJ G (b + (266 + 6 * i) + 5) 1 = _ from h.nu (j := 1) hi (by decide), Option.bind_some, fits_c, Option.bind_some]
    cases f1 : fitB (P (266 + 6 * i + 5) 1) 8
    · rw [bI_f, if_pos rfl, gZ_0, Option.bind_some, Bool.false_and, bI_f]
    · rw [bI_t, if_neg (by decide), Bool.true_and, Option.bind_some, show gLdJ G (b + (266 + 6 * i) + 5) 2 = _ from h.nu (j := 2) hi (by decide), Option.bind_some, fits_c, Option.bind_some]
      cases f2 : fitB (P (266 + 6 * i + 5) 2) 8
      · rw [bI_f, if_pos rfl, gZ_0, Option.bind_some, Bool.false_and, bI_f]
      · rw [bI_t, if_neg (by decide), Bool.true_and, Option.bind_some, show gLdJ G (b + (266 + 6 * i) + 5) 3 = _ from h.nu (j := 3) hi (by decide), Option.bind_some, fits_c, Option.bind_some]
        cases f3 : fitB (P (266 + 6 * i + 5) 3) 12
        · rw [bI_f, if_pos rfl, gZ_0, Option.bind_some, Bool.false_and, bI_f]
        · rw [bI_t, if_neg (by decide), Bool.true_and, Option.bind_some, show gLdJ G (b + (266 + 6 * i) + 5) 4 = _ from h.nu (j := 4) hi (by decide), Option.bind_some]
          by_cases c4 : P (266 + 6 * i + 5) 4 = 0
          · rw [if_pos c4, gZ_1, Option.bind_some, decide_eq_true c4, bI_t]
          · rw [if_neg c4, gZ_0, Option.bind_some, decide_eq_false c4, bI_f]
  · rw [if_pos ((i100 (by omega)).mpr c), gZ_0, Option.bind_some, decide_eq_false c, Bool.false_and, bI_f]
theorem k_folder {i ns : Nat} (h : CAt G b O P) (hi : i < 9) (hs : O (266 + 6 * i + 1) 1 = nI ns) (hs1 : 1 ≤ ns) (hs2 : ns ≤ 400) : fX3_looksLikeFolder v G (b + (266 + 6 * i)) = some (bI (flB (O (266 + 6 * i) 3) (O (266 + 6 * i + 1 + 1) (ns - 1) &&& 255))) := by
  have hen := h.en hi
  have r1 := h.rt (rkE1 (ekI hi)) hs (by omega)
  unfold fX3_looksLikeFolder jX3_looksLikeFolder_28 flB
  rw [gOb_at hen, Option.bind_some, gI_at hen (k := 3) rfl, Option.bind_some, gZ_0, gZ_1]
  by_cases c : O (266 + 6 * i) 3 = 53
  · rw [if_pos c, Option.bind_some, decide_eq_true c, Bool.true_or, bI_t]
  · rw [if_neg c, Option.bind_some, decide_eq_false c, Bool.false_or]
    by_cases c2 : O (266 + 6 * i) 3 = 48
    · have es : fX7_endsWithSlash v G (b + (266 + 6 * i + 1)) = some (bI (decide (O (266 + 6 * i + 1 + 1) (ns - 1) &&& 255 = 47))) := by
        unfold fX7_endsWithSlash
        rw [r1.ob, Option.bind_some, r1.us, Option.bind_some, show nI ns - 1 = nI (ns - 1) from pk_sub (a := ns) (b := 1) hs1, r_at r1, Option.bind_some, rAt_in (by omega) (by omega), gZ_0, gZ_1]
        by_cases c3 : O (266 + 6 * i + 1 + 1) (ns - 1) &&& 255 = 47
        · rw [if_pos c3, Option.bind_some, decide_eq_true c3, bI_t]
        · rw [if_neg c3, Option.bind_some, decide_eq_false c3, bI_f]
      rw [if_pos c2, decide_eq_true c2, Bool.true_and, gR_at hen (k := 0) (x := b + (266 + 6 * i) + 1) rfl, Option.bind_some, show b + (266 + 6 * i) + 1 = b + (266 + 6 * i + 1) by omega, es, Option.bind_some]
      cases c3 : decide (O (266 + 6 * i + 1 + 1) (ns - 1) &&& 255 = 47)
      · rw [bI_f, if_pos rfl, Option.bind_some]
      · rw [bI_t, if_neg (by decide), Option.bind_some]
    · rw [if_neg c2, Option.bind_some, decide_eq_false c2, Bool.false_and, bI_f]
theorem k_inF {i ns : Nat} {sp : Int32} (h : CAt G b O P) (hi : i < 9) (hs : O (266 + 6 * i + 1) 1 = nI ns) (hs2 : ns ≤ 400) (hsp : SpR (fun k => O (266 + 6 * i + 1 + 1) k &&& 255) ns sp) : fX3_isNameInFields v G (b + (266 + 6 * i)) = some (bI (nfB ns sp)) := by
  have hen := h.en hi
  have r1 := h.rt (rkE1 (ekI hi)) hs (by omega)
  obtain ⟨r, er, hr⟩ := k_split (v := v) h hi hs hs2
  obtain rfl := hr.u hsp
  unfold fX3_isNameInFields jX3_isNameInFields_19 nfB
  rw [gOb_at hen, Option.bind_some, gR_at hen (k := 0) (x := b + (266 + 6 * i) + 1) rfl, Option.bind_some, show b + (266 + 6 * i) + 1 = b + (266 + 6 * i + 1) by omega, r_count r1, Option.bind_some, gZ_0, gZ_1]
  by_cases c : ns ≤ 100
  · rw [if_pos ((j100 (by omega)).mpr c), Option.bind_some, decide_eq_true c, Bool.true_or, bI_t]
  · rw [if_neg (fun q => c ((j100 (by omega)).mp q)), er, Option.bind_some, decide_eq_false c, Bool.false_or]
    by_cases c2 : r ≤ 0
    · rw [if_pos c2, Option.bind_some, decide_eq_false (fun q => q c2), bI_f]
    · rw [if_neg c2, Option.bind_some, decide_eq_true c2, bI_t]
theorem k_isOf {i ns ls : Nat} {sp : Int32} (h : CAt G b O P) (hi : i < 9) (hs : O (266 + 6 * i + 1) 1 = nI ns) (hs1 : 1 ≤ ns) (hs2 : ns ≤ 400) (hl : O (266 + 6 * i + 3) 1 = nI ls) (hl2 : ls ≤ 400) (hsp : SpR (fun k => O (266 + 6 * i + 1 + 1) k &&& 255) ns sp) {x : Nat} (hx : x < 4) : fX3_isOf v G (b + (266 + 6 * i)) (nI x) = some (bI (ofS x (O (266 + 6 * i) 3) ns ls (O (266 + 6 * i + 1 + 1) (ns - 1) &&& 255) sp (P (266 + 6 * i + 5) 1) (P (266 + 6 * i + 5) 2) (P (266 + 6 * i + 5) 3) (P (266 + 6 * i + 5) 4))) := by
  have hen := h.en hi
  have r1 := h.rt (rkE1 (ekI hi)) hs (by omega)
  have e1 := k_folder (v := v) h hi hs hs1 hs2
  have e2 := k_plain (v := v) h hi hl hl2
  have e3 := k_inF (v := v) h hi hs hs2 hsp
  unfold fX3_isOf ofS
  rw [gOb_at hen, Option.bind_some, gZ_0, gZ_1, e1, e2, e3]
  rcases (show x = 0 ∨ x = 1 ∨ x = 2 ∨ x = 3 by omega) with rfl | rfl | rfl | rfl
  · rw [if_pos (show nI 0 = (0 : Int32) from rfl), if_pos rfl, Option.bind_some]
    cases flB (O (266 + 6 * i) 3) (O (266 + 6 * i + 1 + 1) (ns - 1) &&& 255)
    · rw [bI_f, if_pos rfl, gR_at hen (k := 0) (x := b + (266 + 6 * i) + 1) rfl, Option.bind_some, show b + (266 + 6 * i) + 1 = b + (266 + 6 * i + 1) by omega, r_count r1, Option.bind_some, Bool.not_false, Bool.true_and]
      by_cases c : ns ≤ 100
      · rw [if_neg (fun q => (i100 (by omega)).mp q c), Option.bind_some, decide_eq_true c, Bool.true_and]
        cases plB ls (P (266 + 6 * i + 5) 1) (P (266 + 6 * i + 5) 2) (P (266 + 6 * i + 5) 3) (P (266 + 6 * i + 5) 4)
        · rw [bI_f, if_pos rfl, Option.bind_some]
        · rw [bI_t, if_neg (by decide), Option.bind_some]
      · rw [if_pos ((i100 (by omega)).mpr c), Option.bind_some, decide_eq_false c, Bool.false_and, bI_f]
    · rw [bI_t, if_neg (by decide), Option.bind_some, Bool.not_true, Bool.false_and, bI_f]
  · rw [if_neg (show ¬ nI 1 = (0 : Int32) by decide), if_pos (show nI 1 = (1 : Int32) from rfl), if_neg (show ¬ (1 : Nat) = 0 by decide), if_pos rfl, Option.bind_some]
    cases nfB ns sp
    · rw [bI_f, if_pos rfl, Option.bind_some, Bool.false_and, bI_f]
    · rw [bI_t, if_neg (by decide), Option.bind_some, Bool.true_and]
      cases plB ls (P (266 + 6 * i + 5) 1) (P (266 + 6 * i + 5) 2) (P (266 + 6 * i + 5) 3) (P (266 + 6 * i + 5) 4)
      · rw [bI_f, if_pos rfl, Option.bind_some]
      · rw [bI_t, if_neg (by decide), Option.bind_some]
  · rw [if_neg (show ¬ nI 2 = (0 : Int32) by decide), if_neg (show ¬ nI 2 = (1 : Int32) by decide), if_pos (show nI 2 = (2 : Int32) from rfl), if_neg (show ¬ (2 : Nat) = 0 by decide), if_neg (show ¬ (2 : Nat) = 1 by decide), if_pos rfl, Option.bind_some, bI_t]
  · rw [if_neg (by decide), if_neg (by decide), if_neg (by decide), if_neg (by decide), if_neg (by decide), if_neg (by decide), gR_at hen (k := 2) (x := b + (266 + 6 * i) + 5) rfl, Option.bind_some, show gLdJ G (b + (266 + 6 * i) + 5) 4 = _ from h.nu (j := 4) hi (by decide), Option.bind_some]
    by_cases c4 : P (266 + 6 * i + 5) 4 = 0
    · rw [if_pos c4, Option.bind_some, decide_eq_true c4, bI_t]
    · rw [if_neg c4, Option.bind_some, decide_eq_false c4, bI_f]
theorem m_isOf {e ns ls : Nat} {sp : Int32} (h : MAt G m I J A B) (he : e < 8) (hs : A 4 e = nI ns) (hs1 : 1 ≤ ns) (hs2 : ns ≤ 400) (hl : A 6 e = nI ls) (hl2 : ls ≤ 400) (hsp : SpR (fun k => A 3 (400 * e + k)) ns sp) {x : Nat} (hx : x < 4) : fX11_isOf v G m (nI e) (nI x) = some (bI (ofS x (A 2 e) ns ls (A 3 (400 * e + (ns - 1))) sp (B 7 (5 * e + 1)) (B 7 (5 * e + 2)) (B 7 (5 * e + 3)) (B 7 (5 * e + 4)))) := by
  have nu : ∀ c, c < 5 → gLdJ G (m + 7) ((5 : Int32) * nI e + Int32.ofNat c) = some (B 7 (5 * e + c)) := fun c hc => by
    rw [ix5]
    exact h.ldl 7 (j := 5 * e + c) ⟨by decide, by decide, rfl⟩ (show _ < 45 by omega)
  have n1 : gLdJ G (m + 7) ((5 : Int32) * nI e + (1 : Int32)) = some (B 7 (5 * e + 1)) := nu 1 (by decide)
  have n2 : gLdJ G (m + 7) ((5 : Int32) * nI e + (2 : Int32)) = some (B 7 (5 * e + 2)) := nu 2 (by decide)
  have n3 : gLdJ G (m + 7) ((5 : Int32) * nI e + (3 : Int32)) = some (B 7 (5 * e + 3)) := nu 3 (by decide)
  have n4 : gLdJ G (m + 7) ((5 : Int32) * nI e + (4 : Int32)) = some (B 7 (5 * e + 4)) := nu 4 (by decide)
  have a2 := h.ld 2 (ty := .int) (j := e) ⟨by decide, by decide, rfl⟩ rfl (show _ < 9 by omega)
  have a4 := h.ld 4 (ty := .int) (j := e) ⟨by decide, by decide, rfl⟩ rfl (show _ < 9 by omega)
  have a6 := h.ld 6 (ty := .int) (j := e) ⟨by decide, by decide, rfl⟩ rfl (show _ < 9 by omega)
  rw [hs] at a4
  rw [hl] at a6
  obtain ⟨r, er, hr⟩ := m_splitOf (v := v) h he hs hs2
  obtain rfl := hr.u hsp
  have f167 : ∀ z : Bool, jX11_isOf_167 v G m (nI e) (bI z) = some (bI (decide (ns ≤ 100) && !(decide (A 2 e = 53) || (decide (A 2 e = 48) && z)))) := by
    intro z
    unfold jX11_isOf_167 jX11_isOf_207
    rw [h.r 5 4 rfl (by decide), Option.bind_some, a4, Option.bind_some, gZ_0, gZ_1]
    by_cases c : ns ≤ 100
    · rw [if_neg (fun q => (i100 (by omega)).mp q c), decide_eq_true c, Bool.true_and, h.r 3 2 rfl (by decide), Option.bind_some, a2, Option.bind_some]
      by_cases c1 : A 2 e = 53
      · rw [if_pos c1, Option.bind_some, decide_eq_true c1, Bool.true_or, Bool.not_true, bI_f]
      · rw [if_neg c1, Option.bind_some, a2, Option.bind_some, decide_eq_false c1, Bool.false_or]
        by_cases c2 : A 2 e = 48
        · rw [if_pos c2, decide_eq_true c2, Bool.true_and]
          cases z
          · rw [bI_f, if_pos rfl, Option.bind_some, Bool.not_false, bI_t]
          · rw [bI_t, if_neg (by decide), Option.bind_some, Bool.not_true, bI_f]
        · rw [if_neg c2, Option.bind_some, decide_eq_false c2, Bool.false_and, Bool.not_false, bI_t]
    · rw [if_pos ((i100 (by omega)).mpr c), Option.bind_some, decide_eq_false c, Bool.false_and, bI_f]
  have f90 : ∀ x, x < 2 → jX11_isOf_90 v G m (nI e) (nI x) 1 = some (bI (decide (ls ≤ 100) && (if x = 1 then nfB ns r else decide (ns ≤ 100) && !(flB (A 2 e) (A 3 (400 * e + (ns - 1))))))) := by
    intro x hx
    unfold jX11_isOf_90 jX11_isOf_132
    rw [if_neg (by decide), h.r 7 6 rfl (by decide), Option.bind_some, a6, Option.bind_some, gZ_0, gZ_1]
    by_cases c : ls ≤ 100
    · rw [if_pos ((j100 (by omega)).mpr c), decide_eq_true c, Bool.true_and]
      rcases (show x = 0 ∨ x = 1 by omega) with rfl | rfl
      · rw [if_neg (by decide), if_neg (by decide), h.r 4 3 rfl (by decide), Option.bind_some, h.r 5 4 rfl (by decide), Option.bind_some, a4, Option.bind_some, ix400, show nI (400 * e + ns) - 1 = nI (400 * e + (ns - 1)) from (pk_sub (a := 400 * e + ns) (b := 1) (by omega)).trans (by rw [Nat.add_sub_assoc hs1]), h.ld 3 (ty := .int) (j := 400 * e + (ns - 1)) ⟨by decide, by decide, rfl⟩ rfl (show _ < 3600 by omega), Option.bind_some]
        unfold flB
        by_cases c1 : A 3 (400 * e + (ns - 1)) = 47
        · rw [if_pos c1, decide_eq_true c1]
          exact f167 true
        · rw [if_neg c1, decide_eq_false c1]
          exact f167 false
      · unfold nfB
        rw [if_pos (show nI 1 = (1 : Int32) from rfl), if_pos rfl, h.r 5 4 rfl (by decide), Option.bind_some, a4, Option.bind_some]
        by_cases c1 : ns ≤ 100
        · rw [if_pos ((j100 (by omega)).mpr c1), Option.bind_some, decide_eq_true c1, Bool.true_or, bI_t]
        · rw [if_neg (fun q => c1 ((j100 (by omega)).mp q)), er, Option.bind_some, decide_eq_false c1, Bool.false_or]
          by_cases c2 : r ≤ 0
          · rw [if_pos c2, Option.bind_some, decide_eq_false (fun q => q c2), bI_f]
          · rw [if_neg c2, Option.bind_some, decide_eq_true c2, bI_t]
    · rw [if_neg (fun q => c ((j100 (by omega)).mp q)), Option.bind_some, decide_eq_false c, Bool.false_and, bI_f]
  have f89 : ∀ x, jX11_isOf_89 v G m (nI e) x = some 0 := by
    intro x
    unfold jX11_isOf_89 jX11_isOf_90
    rw [if_pos rfl, gZ_0, Option.bind_some]
  have lo2 : ∀ x, x < 2 → fX11_isOf v G m (nI e) (nI x) = some (bI ((if x = 1 then nfB ns r else decide (ns ≤ 100) && !(flB (A 2 e) (A 3 (400 * e + (ns - 1))))) && plB ls (B 7 (5 * e + 1)) (B 7 (5 * e + 2)) (B 7 (5 * e + 3)) (B 7 (5 * e + 4)))) := by
    intro x hx
    unfold fX11_isOf plB
    have c2 : ¬ nI x = (2 : Int32) := fun q => by
      have := (nI_eq (b := 2) (by omega) (by decide)).mp q
      omega
    have c3 : ¬ nI x = (3 : Int32) := fun q => by
      have := (nI_eq (b := 3) (by omega) (by decide)).mp q
      omega
    rw [h.ob, Option.bind_some, if_neg c2, h.r 8 7 rfl (by decide), Option.bind_some, n4, Option.bind_some, gZ_0, gZ_1]
    by_cases c4 : B 7 (5 * e + 4) = 0
    · rw [if_pos c4, if_neg c3, Option.bind_some, n1, Option.bind_some, fits_e, Option.bind_some, decide_eq_true c4, Bool.and_true]
      cases f1 : fitB (B 7 (5 * e + 1)) 8
      · rw [bI_f, if_pos rfl, f89, Bool.false_and, Bool.and_false, Bool.and_false, bI_f]
      · rw [bI_t, if_neg (by decide), Option.bind_some, n2, Option.bind_some, fits_e, Option.bind_some, Bool.true_and]
        cases f2 : fitB (B 7 (5 * e + 2)) 8
        · rw [bI_f, if_pos rfl, f89, Bool.false_and, Bool.and_false, Bool.and_false, bI_f]
        · rw [bI_t, if_neg (by decide), Option.bind_some, n3, Option.bind_some, fits_e, Option.bind_some, Bool.true_and]
          cases f3 : fitB (B 7 (5 * e + 3)) 12
          · rw [bI_f, if_pos rfl, f89, Bool.and_false, Bool.and_false, bI_f]
          · rw [bI_t, if_neg (by decide), f90 x hx, Bool.and_true, Bool.and_comm]
    · rw [if_neg c4, Option.bind_some, decide_eq_false c4, Bool.and_false, Bool.and_false, Bool.and_false, Bool.and_false, Bool.and_false, bI_f]
  rcases (show x = 0 ∨ x = 1 ∨ x = 2 ∨ x = 3 by omega) with rfl | rfl | rfl | rfl
  · rw [lo2 0 (by decide)]
    unfold ofS
    rw [if_neg (by decide), if_pos rfl, ← Bool.and_assoc, Bool.and_comm (decide (ns ≤ 100))]
  · rw [lo2 1 (by decide)]
    unfold ofS
    rw [if_pos rfl, if_neg (by decide), if_pos rfl]
  · unfold fX11_isOf ofS
    rw [h.ob, Option.bind_some, if_pos (show nI 2 = (2 : Int32) from rfl), gZ_1, Option.bind_some, if_neg (by decide), if_neg (by decide), if_pos rfl, bI_t]
  · unfold fX11_isOf ofS
    rw [h.ob, Option.bind_some, if_neg (by decide), h.r 8 7 rfl (by decide), Option.bind_some, n4, Option.bind_some, gZ_0, gZ_1, if_neg (show ¬ (3 : Nat) = 0 by decide), if_neg (show ¬ (3 : Nat) = 1 by decide), if_neg (show ¬ (3 : Nat) = 2 by decide)]
    by_cases c4 : B 7 (5 * e + 4) = 0
    · rw [if_pos c4, if_pos (show nI 3 = (3 : Int32) from rfl), Option.bind_some, decide_eq_true c4, bI_t]
    · rw [if_neg c4, Option.bind_some, decide_eq_false c4, bI_f]
/-- the first ENTRY that is not OF the FAMILY, on both sides -/
theorem i_first {n : Nat} {x : Int32} (h : CAt G b O P) (k : MAt G m I J A B) (hn : O 0 3 = nI n) (hn2 : I 2 = nI n) (hn8 : n ≤ 8) {w : Nat → Bool} (hc : ∀ e, e < n → fX3_isOf v G (b + (266 + 6 * e)) x = some (bI (w e))) (hk : ∀ e, e < n → fX11_isOf v G m (nI e) x = some (bI (w e))) : ∃ r, r ≤ n ∧ fX10_firstNotOf v G b x = some (nI r) ∧ fX11_notOf v G m x = some (if r = n then -1 else nI r) := by
  have o := h.tf hn
  have hsl := h.a 5 (by decide) (e := (.object "TarForms$Entry", true, 9, slF b)) rfl
  have lp : ∀ (d q f1 f2 : Nat), q + d = n → d < f1 → d < f2 → ∃ r, r ≤ n ∧ lX10_firstNotOf_2 v G f1 b x (nI q) = some (nI r) ∧ lX11_notOf_2 v G f2 m x (nI q) = some (if r = n then -1 else nI r) := by
    intro d
    induction d with
    | zero =>
      intro q f1 f2 hq h1 h2
      obtain ⟨f1, rfl⟩ : ∃ f', f1 = f' + 1 := ⟨f1 - 1, by omega⟩
      obtain ⟨f2, rfl⟩ : ∃ f', f2 = f' + 1 := ⟨f2 - 1, by omega⟩
      obtain rfl : q = n := by omega
      refine ⟨q, by omega, ?_, ?_⟩
      · show bX10_firstNotOf_2 v G (lX10_firstNotOf_2 v G f1) b x (nI q) = _
        unfold bX10_firstNotOf_2
        rw [gI_at o (k := 3) (x := nI q) rfl, Option.bind_some, if_pos (nI_le (Nat.le_refl _) (by omega)), Option.bind_some]
      · show bX11_notOf_2 v G (lX11_notOf_2 v G f2) m x (nI q) = _
        unfold bX11_notOf_2
        rw [k.i 2 rfl, Option.bind_some, hn2, if_pos (nI_le (Nat.le_refl _) (by omega)), if_pos rfl]
    | succ d ih =>
      intro q f1 f2 hq h1 h2
      obtain ⟨f1, rfl⟩ : ∃ f', f1 = f' + 1 := ⟨f1 - 1, by omega⟩
      obtain ⟨f2, rfl⟩ : ∃ f', f2 = f' + 1 := ⟨f2 - 1, by omega⟩
      have c1 : ¬ nI n ≤ nI q := nI_ge (by omega) (by omega)
      have c2 : ¬ nI 9 ≤ nI q := nI_ge (by omega) (by omega)
      have es : gLdR G "TarForms$Entry" (b + 5) (nI q) = some (b + (266 + 6 * q)) := ld_ref hsl (by omega) (by decide) (by unfold slF; rw [if_pos (by omega), Nat.add_assoc])
      have e1 : lX10_firstNotOf_2 v G (f1 + 1) b x (nI q) = if bI (w q) = 0 then some (nI q) else lX10_firstNotOf_2 v G f1 b x (nI (q + 1)) := by
        show bX10_firstNotOf_2 v G (lX10_firstNotOf_2 v G f1) b x (nI q) = _
        unfold bX10_firstNotOf_2
        rw [gI_at o (k := 3) (x := nI n) rfl, Option.bind_some, if_neg c1, gR_at o (k := 2) (x := b + 5) rfl, Option.bind_some, len_at hsl, Option.bind_some, if_neg c2, Option.bind_some, es, Option.bind_some, hc q (by omega), Option.bind_some, Option.bind_some, nI_1]
      have e2 : lX11_notOf_2 v G (f2 + 1) m x (nI q) = if bI (w q) = 0 then some (nI q) else lX11_notOf_2 v G f2 m x (nI (q + 1)) := by
        show bX11_notOf_2 v G (lX11_notOf_2 v G f2) m x (nI q) = _
        unfold bX11_notOf_2
        rw [k.i 2 rfl, Option.bind_some, hn2, if_neg c1, hk q (by omega), Option.bind_some, Option.bind_some, nI_1]
      rw [e1, e2]
      by_cases c : bI (w q) = 0
      · exact ⟨q, by omega, by rw [if_pos c], by rw [if_pos c, if_neg (by omega)]⟩
      · obtain ⟨r, a1, a2, a3⟩ := ih (q + 1) f1 f2 (by omega) (by omega) (by omega)
        exact ⟨r, a1, by rw [if_neg c]; exact a2, by rw [if_neg c]; exact a3⟩
  obtain ⟨r, a1, a2, a3⟩ := lp n 0 gFu gFu (by omega) (by unfold gFu; omega) (by unfold gFu; omega)
  refine ⟨r, a1, ?_, ?_⟩
  · unfold fX10_firstNotOf
    rw [gOb_at o, Option.bind_some]
    exact a2
  · unfold fX11_notOf
    rw [k.ob, Option.bind_some]
    exact a3
end OA
