/-! PURE: the reference's cells: its object at m, its 22 arrays behind it. I: its int fields, J: its long field, A, B: its arrays of ints (and booleans) and of longs, by their places -/
/-- nothing but n cells from a on has changed -/
def Fw (G G' : gH) (a n : Nat) : Prop := G'.2.2 = G.2.2 ∧ ∀ q, q < a ∨ a + n ≤ q → G'.1 q = G.1 q ∧ G'.2.1 q = G.2.1 q
theorem Fw.rf {G : gH} {a n : Nat} : Fw G G a n := ⟨rfl, fun _ _ => ⟨rfl, rfl⟩⟩
theorem Fw.tr {G G1 G2 : gH} {a n : Nat} (h : Fw G G1 a n) (k : Fw G1 G2 a n) : Fw G G2 a n := ⟨k.1.trans h.1, fun q hq => ⟨(k.2 q hq).1.trans (h.2 q hq).1, (k.2 q hq).2.trans (h.2 q hq).2⟩⟩
theorem Fw.wd {G G1 : gH} {a n a' n' : Nat} (h : Fw G G1 a n) (h1 : a' ≤ a) (h2 : a + n ≤ a' + n') : Fw G G1 a' n' := ⟨h.1, fun q hq => h.2 q (by omega)⟩
theorem Fr2.fw {G G1 : gH} {r a n : Nat} (h : Fr2 G G1 r) (h1 : a ≤ r) (h2 : r + 2 ≤ a + n) : Fw G G1 a n := ⟨h.1, fun q hq => ⟨h.2.1 q (by omega), h.2.2 q (by omega)⟩⟩
theorem upO_fw (G : gH) {q a n : Nat} (e : gOE) (h1 : a ≤ q) (h2 : q < a + n) : Fw G (gUpO G q e) a n := ⟨rfl, fun p hp => upO_both G e (by omega)⟩
theorem upA_fw (G : gH) {q a n : Nat} (e : gAE) (h1 : a ≤ q) (h2 : q < a + n) : Fw G (gUpA G q e) a n := ⟨rfl, fun p hp => upA_both G e (by omega)⟩
theorem gOb_at {G : gH} {a ci : Nat} {fs : List Value} (h : G.2.1 a = some (ci, fs)) : gOb G a ci = some () := by simp [gOb, h]
theorem gI_at {G : gH} {a ci k : Nat} {x : Int32} {fs : List Value} (h : G.2.1 a = some (ci, fs)) (hk : fs[k]? = some (.int x)) : gI G a ci k = some x := by simp [gI, gGet, h, hk, vI]
theorem gJ_at {G : gH} {a ci k : Nat} {x : Int64} {fs : List Value} (h : G.2.1 a = some (ci, fs)) (hk : fs[k]? = some (.long x)) : gJ G a ci k = some x := by simp [gJ, gGet, h, hk, vJ]
theorem gZ_0 : gZ 0 = some 0 := rfl
theorem gZ_1 : gZ 1 = some 1 := rfl
theorem ld_int {G : gH} {a n j : Nat} {ty : FieldType} {w : Bool} {f : Nat → Value} {x : Int32} (h : G.1 a = some (ty, w, n, f)) (hj : j < n) (hn : n < 2 ^ 31) (hx : f j = .int x) : gLdI G ty a (nI j) = some x := by
  have h2 : ¬ (nI j < 0 ∨ n ≤ (nI j).toNatClampNeg) := nI_in hj hn
  unfold gLdI gLd
  rw [h]
  simp only [if_true, if_neg h2, Option.bind_some]
  rw [nI_clamp (by omega), hx]
  rfl
theorem ld_lng {G : gH} {a n j : Nat} {w : Bool} {f : Nat → Value} {x : Int64} (h : G.1 a = some (.long, w, n, f)) (hj : j < n) (hn : n < 2 ^ 31) (hx : f j = .long x) : gLdJ G a (nI j) = some x := by
  have h2 : ¬ (nI j < 0 ∨ n ≤ (nI j).toNatClampNeg) := nI_in hj hn
  unfold gLdJ gLd
  rw [h]
  simp only [if_true, if_neg h2, Option.bind_some]
  rw [nI_clamp (by omega), hx]
  rfl
theorem ld_ref {G : gH} {a n j q : Nat} {C : String} {w : Bool} {f : Nat → Value} (h : G.1 a = some (.object C, w, n, f)) (hj : j < n) (hn : n < 2 ^ 31) (hx : f j = .ref q) : gLdR G C a (nI j) = some q := by
  have h2 : ¬ (nI j < 0 ∨ n ≤ (nI j).toNatClampNeg) := nI_in hj hn
  unfold gLdR gLd
  rw [h]
  simp only [if_true, if_neg h2, Option.bind_some]
  rw [nI_clamp (by omega), hx]
  rfl
theorem st_any {G : gH} {a n j : Nat} {ty : FieldType} {f : Nat → Value} (x : Value) (h : G.1 a = some (ty, true, n, f)) (hj : j < n) (hn : n < 2 ^ 31) : gSt G ty a (nI j) x = some (gUpA G a (ty, true, n, updV f j x)) := by
  have h2 : ¬ (nI j < 0 ∨ n ≤ (nI j).toNatClampNeg) := nI_in hj hn
  unfold gSt
  rw [h]
  simp only [and_self, if_true, if_neg h2]
  rw [nI_clamp (by omega)]
/-- arrays of longs, of booleans; lengths -/
def mLg (k : Nat) : Bool := k == 7 || k == 13 || k == 21 || k == 22
def mTy (k : Nat) : FieldType := if mLg k then .long else if k = 20 then .boolean else .int
def mLen : Nat → Nat
  | 1 => 512 | 2 => 9 | 3 => 3600 | 4 => 9 | 5 => 3600 | 6 => 9 | 7 => 45 | 8 => 9 | 9 => 9 | 10 => 32768 | 11 => 120000 | 12 => 420 | 13 => 480 | 14 => 16000 | 15 => 16000 | 16 => 800 | 17 => 2 | 18 => 800 | 19 => 2 | 20 => 8 | 21 => 10 | 22 => 5
  | _ => 0
def mVal (A : Nat → Nat → Int32) (B : Nat → Nat → Int64) (k j : Nat) : Value := if mLg k then .long (B k j) else .int (A k j)
def mF (m : Nat) (I : Nat → Int32) (J : Int64) : List Value := [.ref (m + 1), .int (I 1), .int (I 2), .ref (m + 2), .ref (m + 3), .ref (m + 4), .ref (m + 5), .ref (m + 6), .ref (m + 7), .ref (m + 8), .ref (m + 9), .ref (m + 10), .int (I 12), .ref (m + 11), .int (I 14), .ref (m + 12), .int (I 16), .int (I 17), .int (I 18), .int (I 19), .int (I 20), .ref (m + 13), .ref (m + 14), .ref (m + 15), .ref (m + 16), .ref (m + 17), .ref (m + 18), .ref (m + 19), .ref (m + 20), .ref (m + 21), .int (I 30), .long J, .ref (m + 22)]
def MAt (G : gH) (m : Nat) (I : Nat → Int32) (J : Int64) (A : Nat → Nat → Int32) (B : Nat → Nat → Int64) : Prop :=
  G.2.1 m = some (10, mF m I J) ∧ ∀ k, 1 ≤ k → k ≤ 22 → G.1 (m + k) = some (mTy k, true, mLen k, mVal A B k)
def mIk (k : Nat) : Bool := k == 1 || k == 2 || k == 12 || k == 14 || k == 16 || k == 17 || k == 18 || k == 19 || k == 20 || k == 30
/-- the array behind a field -/
def mRk : Nat → Nat
  | 0 => 1 | 3 => 2 | 4 => 3 | 5 => 4 | 6 => 5 | 7 => 6 | 8 => 7 | 9 => 8 | 10 => 9 | 11 => 10 | 13 => 11 | 15 => 12 | 21 => 13 | 22 => 14 | 23 => 15 | 24 => 16 | 25 => 17 | 26 => 18 | 27 => 19 | 28 => 20 | 29 => 21 | 32 => 22
  | _ => 0
def upA (A : Nat → Nat → Int32) (c j : Nat) (x : Int32) : Nat → Nat → Int32 := fun k i => if k = c ∧ i = j then x else A k i
def upB (B : Nat → Nat → Int64) (c j : Nat) (x : Int64) : Nat → Nat → Int64 := fun k i => if k = c ∧ i = j then x else B k i
theorem mIk_eq {k : Nat} (h : mIk k = true) : k = 1 ∨ k = 2 ∨ k = 12 ∨ k = 14 ∨ k = 16 ∨ k = 17 ∨ k = 18 ∨ k = 19 ∨ k = 20 ∨ k = 30 := by
  simp [mIk] at h
  omega
theorem mLen_lt (k : Nat) : mLen k < 2 ^ 31 := by
  unfold mLen
  split <;> decide
section MD
variable {G : gH} {m : Nat} {I : Nat → Int32} {J : Int64} {A : Nat → Nat → Int32} {B : Nat → Nat → Int64}
theorem MAt.ob (h : MAt G m I J A B) : gOb G m 10 = some () := gOb_at h.1
theorem MAt.i (h : MAt G m I J A B) (k : Nat) (hk : mIk k = true) : gI G m 10 k = some (I k) := gI_at h.1 (by
  rcases mIk_eq hk with rfl | rfl | rfl | rfl | rfl | rfl | rfl | rfl | rfl | rfl <;> rfl)
theorem MAt.j (h : MAt G m I J A B) : gJ G m 10 31 = some J := gJ_at h.1 rfl
theorem MAt.r (h : MAt G m I J A B) (k c : Nat) (hk : mRk k = c) (hc : 0 < c) : gR G m 10 k = some (m + c) := gR_at h.1 (by
  subst hk
  unfold mRk at hc ⊢
  split at hc <;> first | rfl | exact absurd hc (by decide))
theorem MAt.pi (h : MAt G m I J A B) (k : Nat) (x : Int32) (hk : mIk k = true) : ∃ G', gPut G m 10 k (.int x) = some G' ∧ MAt G' m (upd I k x) J A B ∧ Fw G G' m 23 := by
  refine ⟨gUpO G m (10, (mF m I J).set k (.int x)), put_at h.1 ?_, ⟨?_, fun c h1 h2 => ?_⟩, upO_fw G _ (by omega) (by omega)⟩
  · rcases mIk_eq hk with rfl | rfl | rfl | rfl | rfl | rfl | rfl | rfl | rfl | rfl <;> (show _ < 33; decide)
  · rw [upO_at]
    rcases mIk_eq hk with rfl | rfl | rfl | rfl | rfl | rfl | rfl | rfl | rfl | rfl <;> rfl
  · rw [upO_arr]; exact h.2 c h1 h2
theorem MAt.pj (h : MAt G m I J A B) (x : Int64) : ∃ G', gPut G m 10 31 (.long x) = some G' ∧ MAt G' m I x A B ∧ Fw G G' m 23 :=
  ⟨gUpO G m (10, (mF m I J).set 31 (.long x)), put_at h.1 (by show 31 < 33; decide), ⟨by rw [upO_at]; rfl, fun c h1 h2 => by rw [upO_arr]; exact h.2 c h1 h2⟩, upO_fw G _ (by omega) (by omega)⟩
theorem MAt.ld (h : MAt G m I J A B) (c : Nat) {ty : FieldType} {j : Nat} (hc : 1 ≤ c ∧ c ≤ 22 ∧ mLg c = false) (ht : mTy c = ty) (hj : j < mLen c) : gLdI G ty (m + c) (nI j) = some (A c j) := by
  subst ht
  exact ld_int (h.2 c hc.1 hc.2.1) hj (mLen_lt c) (by unfold mVal; rw [hc.2.2]; rfl)
theorem MAt.ldl (h : MAt G m I J A B) (c : Nat) {j : Nat} (hc : 1 ≤ c ∧ c ≤ 22 ∧ mLg c = true) (hj : j < mLen c) : gLdJ G (m + c) (nI j) = some (B c j) := by
  have h1 := h.2 c hc.1 hc.2.1
  have ht : mTy c = .long := by unfold mTy; rw [hc.2.2]; rfl
  rw [ht] at h1
  exact ld_lng h1 hj (mLen_lt c) (by unfold mVal; rw [hc.2.2]; rfl)
theorem MAt.st (h : MAt G m I J A B) (c : Nat) {ty : FieldType} {j : Nat} (x : Int32) (hc : 1 ≤ c ∧ c ≤ 22 ∧ mLg c = false) (ht : mTy c = ty) (hj : j < mLen c) : ∃ G', gSt G ty (m + c) (nI j) (.int x) = some G' ∧ MAt G' m I J (upA A c j x) B ∧ Fw G G' m 23 := by
  subst ht
  refine ⟨_, st_any (.int x) (h.2 c hc.1 hc.2.1) hj (mLen_lt c), ⟨h.1, fun k h1 h2 => ?_⟩, upA_fw G _ (by omega) (by omega)⟩
  by_cases hk : k = c
  · subst hk
    rw [upA_at]
    have e : updV (mVal A B k) j (.int x) = mVal (upA A k j x) B k := by
      funext i
      unfold updV mVal upA
      rw [hc.2.2]
      by_cases hi : i = j
      · subst hi; simp
      · simp [hi]
    rw [e]
  · rw [upA_ne _ _ (by omega), h.2 k h1 h2]
    have e : mVal A B k = mVal (upA A c j x) B k := by
      funext i
      unfold mVal upA
      simp [hk]
    rw [e]
theorem MAt.stl (h : MAt G m I J A B) (c : Nat) {j : Nat} (x : Int64) (hc : 1 ≤ c ∧ c ≤ 22 ∧ mLg c = true) (hj : j < mLen c) : ∃ G', gSt G .long (m + c) (nI j) (.long x) = some G' ∧ MAt G' m I J A (upB B c j x) ∧ Fw G G' m 23 := by
  have h1 := h.2 c hc.1 hc.2.1
  have ht : mTy c = .long := by unfold mTy; rw [hc.2.2]; rfl
  rw [ht] at h1
  refine ⟨_, st_any (.long x) h1 hj (mLen_lt c), ⟨h.1, fun k h1 h2 => ?_⟩, upA_fw G _ (by omega) (by omega)⟩
  by_cases hk : k = c
  · subst hk
    rw [upA_at, ht]
    have e : updV (mVal A B k) j (.long x) = mVal A (upB B k j x) k := by
      funext i
      unfold updV mVal upB
      rw [hc.2.2]
      by_cases hi : i = j
      · subst hi; simp
      · simp [hi]
    rw [e]
  · rw [upA_ne _ _ (by omega), h.2 k h1 h2]
    have e : mVal A B k = mVal A (upB B c j x) k := by
      funext i
      unfold mVal upB
      simp [hk]
    rw [e]
theorem MAt.ag {G' : gH} (h : MAt G m I J A B) (k : ∀ q, m ≤ q → q < m + 23 → G'.1 q = G.1 q ∧ G'.2.1 q = G.2.1 q) : MAt G' m I J A B :=
  ⟨by rw [(k m (by omega) (by omega)).2]; exact h.1, fun c h1 h2 => by rw [(k (m + c) (by omega) (by omega)).1]; exact h.2 c h1 h2⟩
end MD
/-- the reference as it is made -/
def mB0 : Nat → Nat → Int64 := fun k j => if k = 7 ∧ j = 40 then 420 else 0
theorem m_new {G : gH} {m : Nat} (h : Model0 G m) : MAt G m (fun _ => 0) 0 (fun _ _ => 0) mB0 := by
  obtain ⟨h0, h1, h2, h3, h4, h5, h6, h7, h8, h9, h10, h11, h12, h13, h14, h15, h16, h17, h18, h19, h20, h21, h22⟩ := h
  have e7 : (fun j => Value.long (vp_updL (fun _ => 0) 40 420 j)) = mVal (fun _ _ => 0) mB0 7 := by
    funext j
    unfold mVal mB0 vp_updL mLg
    by_cases hj : j = 40 <;> simp [hj]
  rw [e7] at h7
  refine ⟨h0, fun k k1 k2 => ?_⟩
  have hk : k = 1 ∨ k = 2 ∨ k = 3 ∨ k = 4 ∨ k = 5 ∨ k = 6 ∨ k = 7 ∨ k = 8 ∨ k = 9 ∨ k = 10 ∨ k = 11 ∨ k = 12 ∨ k = 13 ∨ k = 14 ∨ k = 15 ∨ k = 16 ∨ k = 17 ∨ k = 18 ∨ k = 19 ∨ k = 20 ∨ k = 21 ∨ k = 22 := by omega
  rcases hk with rfl | rfl | rfl | rfl | rfl | rfl | rfl | rfl | rfl | rfl | rfl | rfl | rfl | rfl | rfl | rfl | rfl | rfl | rfl | rfl | rfl | rfl
  · exact h1
  · exact h2
  · exact h3
  · exact h4
  · exact h5
  · exact h6
  · exact h7
  · exact h8
  · exact h9
  · exact h10
  · exact h11
  · exact h12
  · exact h13
  · exact h14
  · exact h15
  · exact h16
  · exact h17
  · exact h18
  · exact h19
  · exact h20
  · exact h21
  · exact h22
