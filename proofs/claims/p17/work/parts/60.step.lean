/-! the law: one call (written by mklaw.py) -/
theorem nI5 (i : Nat) : nI i + 5 = nI (i + 5) := nI_add i 5
def Lp (v : Nat → Nat) (K : gH → Nat → Nat → Nat → Int32 → Option (Int32 × gH)) (G : gH) (s b m i : Nat) (o : Option (Int32 × gH)) : Prop := ∃ G2, o = K G2 s b m (nI (i + 5)) ∧ INV4 v G2 b m ∧ ∀ q, q < b → G2.1 q = G.1 q
section LS
variable {v : Nat → Nat} {K : gH → Nat → Nat → Nat → Int32 → Option (Int32 × gH)} {G : gH} {s b m i : Nat}
theorem Lp.e {α : Type} {o : Option α} {x : α} {k : α → Option (Int32 × gH)} (h : o = some x) (hk : Lp v K G s b m i (k x)) : Lp v K G s b m i (Option.bind o k) := by
  rw [h]
  exact hk
theorem Lp.ite {c : Prop} {d : Decidable c} {x y : Option (Int32 × gH)} (h1 : c → Lp v K G s b m i x) (h2 : ¬ c → Lp v K G s b m i y) : Lp v K G s b m i (@ite (Option (Int32 × gH)) c d x y) := by
  by_cases h : c
  · rw [if_pos h]; exact h1 h
  · rw [if_neg h]; exact h2 h
set_option maxHeartbeats 4000000 in
theorem law_step {N : Nat} {f : Nat → Value} {g : Nat → Int32} (hI : INV4 v G b m) (hm : b + 320 ≤ m) (hb : s < b) (hs : G.1 s = some (.int, false, N, f)) (hN : N < 2 ^ 31) (hg : ∀ j, j < N → f j = .int (g j)) (hi : i + 5 ≤ N) : Lp v K G s b m i (bL_law_18 v K G s b m (nI i)) := by
  have ldk : ∀ {H : gH}, (∀ q, q < b → H.1 q = G.1 q) → ∀ k, k < 5 → gLdI H .int s (nI i + nI k) = some (g (i + k)) := by
    intro H hH k hk
    rw [nI_add]
    exact ld_int (by rw [hH s hb]; exact hs) (by omega) hN (hg _ (by omega))
  have ld0 : ∀ {H : gH}, (∀ q, q < b → H.1 q = G.1 q) → gLdI H .int s (nI i) = some (g (i + 0)) := by
    intro H hH
    exact ld_int (by rw [hH s hb]; exact hs) (by omega) hN (hg _ (by omega))
  have hlt : ¬ nI N - 5 < nI i := by
    rw [show nI N - 5 = nI (N - 5) from pk_sub (a := N) (b := 5) (by omega)]
    exact Int32.not_lt.mpr (nI_le (by omega) (by omega))
  unfold bL_law_18
  refine Lp.e (len_at hs) ?_
  refine Lp.ite (fun cc => absurd cc hlt) (fun _ => ?_)
  refine Lp.e (ld0 (fun _ _ => rfl)) ?_
  refine Lp.ite (fun _ => ?_) (fun _ => ?_)
  · refine Lp.e (ldk (fun _ _ => rfl) 1 (by decide)) ?_
    refine Lp.e (ldk (fun _ _ => rfl) 2 (by decide)) ?_
    refine Lp.e (ldk (fun _ _ => rfl) 3 (by decide)) ?_
    refine Lp.e (ldk (fun _ _ => rfl) 4 (by decide)) ?_
    obtain ⟨r, G1, G2, e1, e2, sp⟩ := h4_feed (v := v) hI hm (g (i + 1)) (g (i + 2)) (g (i + 3)) (g (i + 4))
    refine Lp.e e1 ?_
    refine Lp.e (ldk sp.2.1 1 (by decide)) ?_
    refine Lp.e (ldk sp.2.1 2 (by decide)) ?_
    refine Lp.e (ldk sp.2.1 3 (by decide)) ?_
    refine Lp.e (ldk sp.2.1 4 (by decide)) ?_
    refine Lp.e e2 ?_
    unfold jL_law_664
    refine Lp.e rfl ?_
    exact ⟨G2, by rw [nI5 i], sp.1, sp.2.2⟩
  refine Lp.ite (fun _ => ?_) (fun _ => ?_)
  · refine Lp.e (ldk (fun _ _ => rfl) 1 (by decide)) ?_
    obtain ⟨r, G1, G2, e1, e2, sp⟩ := h4_cut (v := v) hI hm (g (i + 1))
    refine Lp.e e1 ?_
    refine Lp.e (ldk sp.2.1 1 (by decide)) ?_
    refine Lp.e e2 ?_
    unfold jL_law_664
    refine Lp.e rfl ?_
    exact ⟨G2, by rw [nI5 i], sp.1, sp.2.2⟩
  refine Lp.ite (fun _ => ?_) (fun _ => ?_)
  · refine Lp.e (ldk (fun _ _ => rfl) 1 (by decide)) ?_
    refine Lp.ite (fun c1 => ?_) (fun c1 => ?_)
    · unfold jL_law_202
      obtain ⟨r, G1, G2, e1, e2, sp⟩ := h4_name (v := v) hI hm (0 : Int32)
      refine Lp.e e1 ?_
      refine Lp.e (ldk sp.2.1 1 (by decide)) ?_
      refine Lp.ite (fun _ => ?_) (fun cc => absurd c1 cc)
      unfold jL_law_220
      refine Lp.e e2 ?_
      unfold jL_law_664
      refine Lp.e rfl ?_
      exact ⟨G2, by rw [nI5 i], sp.1, sp.2.2⟩
    · unfold jL_law_202
      obtain ⟨r, G1, G2, e1, e2, sp⟩ := h4_name (v := v) hI hm (1 : Int32)
      refine Lp.e e1 ?_
      refine Lp.e (ldk sp.2.1 1 (by decide)) ?_
      refine Lp.ite (fun cc => absurd cc c1) (fun _ => ?_)
      unfold jL_law_220
      refine Lp.e e2 ?_
      unfold jL_law_664
      refine Lp.e rfl ?_
      exact ⟨G2, by rw [nI5 i], sp.1, sp.2.2⟩
  refine Lp.ite (fun _ => ?_) (fun _ => ?_)
  · refine Lp.e (ldk (fun _ _ => rfl) 1 (by decide)) ?_
    refine Lp.e (ldk (fun _ _ => rfl) 2 (by decide)) ?_
    refine Lp.e (ldk (fun _ _ => rfl) 3 (by decide)) ?_
    obtain ⟨r, G1, G2, e1, e2, sp⟩ := h4_number (v := v) hI hm (g (i + 1)) ((((g (i + 2)).toInt64) <<< ((32 : Int32).toInt64 &&& 63)) ||| (((g (i + 3)).toInt64) &&& (4294967295 : Int64)))
    refine Lp.e e1 ?_
    refine Lp.e (ldk sp.2.1 1 (by decide)) ?_
    refine Lp.e (ldk sp.2.1 2 (by decide)) ?_
    refine Lp.e (ldk sp.2.1 3 (by decide)) ?_
    refine Lp.e e2 ?_
    unfold jL_law_664
    refine Lp.e rfl ?_
    exact ⟨G2, by rw [nI5 i], sp.1, sp.2.2⟩
  refine Lp.ite (fun _ => ?_) (fun _ => ?_)
  · refine Lp.e (ldk (fun _ _ => rfl) 1 (by decide)) ?_
    refine Lp.e (ldk (fun _ _ => rfl) 2 (by decide)) ?_
    refine Lp.e (ldk (fun _ _ => rfl) 3 (by decide)) ?_
    obtain ⟨r, G1, G2, e1, e2, sp⟩ := h4_entry (v := v) hI hm (g (i + 1)) (g (i + 2)) (g (i + 3))
    refine Lp.e e1 ?_
    refine Lp.e (ldk sp.2.1 1 (by decide)) ?_
    refine Lp.e (ldk sp.2.1 2 (by decide)) ?_
    refine Lp.e (ldk sp.2.1 3 (by decide)) ?_
    refine Lp.e e2 ?_
    unfold jL_law_664
    refine Lp.e rfl ?_
    exact ⟨G2, by rw [nI5 i], sp.1, sp.2.2⟩
  refine Lp.ite (fun _ => ?_) (fun _ => ?_)
  · obtain ⟨r, G1, G2, e1, e2, sp⟩ := h4_clear (v := v) hI hm 
    refine Lp.e e1 ?_
    refine Lp.e e2 ?_
    unfold jL_law_664
    refine Lp.e rfl ?_
    exact ⟨G2, by rw [nI5 i], sp.1, sp.2.2⟩
  refine Lp.ite (fun _ => ?_) (fun _ => ?_)
  · obtain ⟨r, e1, e2⟩ := h4_best (v := v) hI 
    refine Lp.e e1 ?_
    refine Lp.e e2 ?_
    unfold jL_law_664
    refine Lp.e rfl ?_
    exact ⟨G, by rw [nI5 i], hI, fun _ _ => rfl⟩
  refine Lp.ite (fun _ => ?_) (fun _ => ?_)
  · refine Lp.e (ldk (fun _ _ => rfl) 1 (by decide)) ?_
    refine Lp.e (ldk (fun _ _ => rfl) 2 (by decide)) ?_
    refine Lp.ite (fun c2 => ?_) (fun c2 => ?_)
    · unfold jL_law_378
      obtain ⟨r, G1, G2, e1, e2, sp⟩ := h4_write (v := v) hI hm ((g (i + 1))) (0 : Int32)
      refine Lp.e e1 ?_
      refine Lp.e (ldk sp.2.1 1 (by decide)) ?_
      refine Lp.e (ldk sp.2.1 2 (by decide)) ?_
      refine Lp.ite (fun _ => ?_) (fun cc => absurd c2 cc)
      unfold jL_law_401
      refine Lp.e e2 ?_
      unfold jL_law_664
      refine Lp.e rfl ?_
      exact ⟨G2, by rw [nI5 i], sp.1, sp.2.2⟩
    · unfold jL_law_378
      obtain ⟨r, G1, G2, e1, e2, sp⟩ := h4_write (v := v) hI hm ((g (i + 1))) (1 : Int32)
      refine Lp.e e1 ?_
      refine Lp.e (ldk sp.2.1 1 (by decide)) ?_
      refine Lp.e (ldk sp.2.1 2 (by decide)) ?_
      refine Lp.ite (fun cc => absurd cc c2) (fun _ => ?_)
      unfold jL_law_401
      refine Lp.e e2 ?_
      unfold jL_law_664
      refine Lp.e rfl ?_
      exact ⟨G2, by rw [nI5 i], sp.1, sp.2.2⟩
  refine Lp.ite (fun _ => ?_) (fun _ => ?_)
  · refine Lp.e (ldk (fun _ _ => rfl) 1 (by decide)) ?_
    obtain ⟨r, G1, G2, e1, e2, sp⟩ := h4_trim (v := v) hI hm (g (i + 1))
    refine Lp.e e1 ?_
    refine Lp.e (ldk sp.2.1 1 (by decide)) ?_
    refine Lp.e e2 ?_
    unfold jL_law_664
    refine Lp.e rfl ?_
    exact ⟨G2, by rw [nI5 i], sp.1, sp.2.2⟩
  refine Lp.ite (fun _ => ?_) (fun _ => ?_)
  · refine Lp.e (ldk (fun _ _ => rfl) 1 (by decide)) ?_
    refine Lp.e (ldk (fun _ _ => rfl) 2 (by decide)) ?_
    obtain ⟨r, G1, G2, e1, e2, sp⟩ := h4_poke (v := v) hI hm (g (i + 1)) (g (i + 2))
    refine Lp.e e1 ?_
    refine Lp.e (ldk sp.2.1 1 (by decide)) ?_
    refine Lp.e (ldk sp.2.1 2 (by decide)) ?_
    refine Lp.e e2 ?_
    unfold jL_law_664
    refine Lp.e rfl ?_
    exact ⟨G2, by rw [nI5 i], sp.1, sp.2.2⟩
  refine Lp.ite (fun _ => ?_) (fun _ => ?_)
  · refine Lp.e (ldk (fun _ _ => rfl) 1 (by decide)) ?_
    obtain ⟨r, G1, G2, e1, e2, sp⟩ := h4_sum (v := v) hI hm (g (i + 1))
    refine Lp.e e1 ?_
    refine Lp.e (ldk sp.2.1 1 (by decide)) ?_
    refine Lp.e e2 ?_
    unfold jL_law_664
    refine Lp.e rfl ?_
    exact ⟨G2, by rw [nI5 i], sp.1, sp.2.2⟩
  refine Lp.ite (fun _ => ?_) (fun _ => ?_)
  · refine Lp.e (ldk (fun _ _ => rfl) 1 (by decide)) ?_
    obtain ⟨r, e1, e2⟩ := h4_octet (v := v) hI (g (i + 1))
    refine Lp.e e1 ?_
    refine Lp.e (ldk (fun _ _ => rfl) 1 (by decide)) ?_
    refine Lp.e e2 ?_
    unfold jL_law_664
    refine Lp.e rfl ?_
    exact ⟨G, by rw [nI5 i], hI, fun _ _ => rfl⟩
  refine Lp.ite (fun _ => ?_) (fun _ => ?_)
  · refine Lp.e (ldk (fun _ _ => rfl) 1 (by decide)) ?_
    refine Lp.ite (fun c3 => ?_) (fun c3 => ?_)
    · unfold jL_law_524
      obtain ⟨r, G1, G2, e1, e2, sp⟩ := h4_read (v := v) hI hm (0 : Int32)
      refine Lp.e e1 ?_
      refine Lp.e (ldk sp.2.1 1 (by decide)) ?_
      refine Lp.ite (fun _ => ?_) (fun cc => absurd c3 cc)
      unfold jL_law_542
      refine Lp.e e2 ?_
      unfold jL_law_664
      refine Lp.e rfl ?_
      exact ⟨G2, by rw [nI5 i], sp.1, sp.2.2⟩
    · unfold jL_law_524
      obtain ⟨r, G1, G2, e1, e2, sp⟩ := h4_read (v := v) hI hm (1 : Int32)
      refine Lp.e e1 ?_
      refine Lp.e (ldk sp.2.1 1 (by decide)) ?_
      refine Lp.ite (fun cc => absurd cc c3) (fun _ => ?_)
      unfold jL_law_542
      refine Lp.e e2 ?_
      unfold jL_law_664
      refine Lp.e rfl ?_
      exact ⟨G2, by rw [nI5 i], sp.1, sp.2.2⟩
  refine Lp.ite (fun _ => ?_) (fun _ => ?_)
  · refine Lp.e (ldk (fun _ _ => rfl) 1 (by decide)) ?_
    obtain ⟨r1, r2, e1, e2⟩ := h4_told (v := v) hI (g (i + 1))
    refine Lp.e e1 ?_
    refine Lp.e (ldk (fun _ _ => rfl) 1 (by decide)) ?_
    refine Lp.e e2 ?_
    unfold jL_law_664
    refine Lp.e rfl ?_
    exact ⟨G, by rw [nI5 i], hI, fun _ _ => rfl⟩
  refine Lp.ite (fun _ => ?_) (fun _ => ?_)
  · refine Lp.e (ldk (fun _ _ => rfl) 1 (by decide)) ?_
    refine Lp.e (ldk (fun _ _ => rfl) 2 (by decide)) ?_
    obtain ⟨r, e1, e2⟩ := h4_found (v := v) hI (g (i + 1)) (g (i + 2))
    refine Lp.e e1 ?_
    refine Lp.e (ldk (fun _ _ => rfl) 1 (by decide)) ?_
    refine Lp.e (ldk (fun _ _ => rfl) 2 (by decide)) ?_
    refine Lp.e e2 ?_
    unfold jL_law_664
    refine Lp.e rfl ?_
    exact ⟨G, by rw [nI5 i], hI, fun _ _ => rfl⟩
  refine Lp.ite (fun _ => ?_) (fun _ => ?_)
  · refine Lp.e (ldk (fun _ _ => rfl) 1 (by decide)) ?_
    refine Lp.e (ldk (fun _ _ => rfl) 2 (by decide)) ?_
    refine Lp.ite (fun c4 => ?_) (fun c4 => ?_)
    · unfold jL_law_624
      refine Lp.e (ldk (fun _ _ => rfl) 3 (by decide)) ?_
      obtain ⟨r, e1, e2⟩ := h4_letter (v := v) hI ((g (i + 1))) (0 : Int32) (g (i + 3))
      refine Lp.e e1 ?_
      refine Lp.e (ldk (fun _ _ => rfl) 1 (by decide)) ?_
      refine Lp.e (ldk (fun _ _ => rfl) 2 (by decide)) ?_
      refine Lp.ite (fun _ => ?_) (fun cc => absurd c4 cc)
      unfold jL_law_651
      refine Lp.e (ldk (fun _ _ => rfl) 3 (by decide)) ?_
      refine Lp.e e2 ?_
      refine Lp.ite (fun _ => ?_) (fun cc => absurd rfl cc)
      unfold jL_law_664
      refine Lp.e rfl ?_
      exact ⟨G, by rw [nI5 i], hI, fun _ _ => rfl⟩
    · unfold jL_law_624
      refine Lp.e (ldk (fun _ _ => rfl) 3 (by decide)) ?_
      obtain ⟨r, e1, e2⟩ := h4_letter (v := v) hI ((g (i + 1))) (1 : Int32) (g (i + 3))
      refine Lp.e e1 ?_
      refine Lp.e (ldk (fun _ _ => rfl) 1 (by decide)) ?_
      refine Lp.e (ldk (fun _ _ => rfl) 2 (by decide)) ?_
      refine Lp.ite (fun cc => absurd cc c4) (fun _ => ?_)
      unfold jL_law_651
      refine Lp.e (ldk (fun _ _ => rfl) 3 (by decide)) ?_
      refine Lp.e e2 ?_
      refine Lp.ite (fun _ => ?_) (fun cc => absurd rfl cc)
      unfold jL_law_664
      refine Lp.e rfl ?_
      exact ⟨G, by rw [nI5 i], hI, fun _ _ => rfl⟩
  unfold jL_law_664
  refine Lp.e rfl ?_
  exact ⟨G, by rw [nI5 i], hI, fun _ _ => rfl⟩
end LS
