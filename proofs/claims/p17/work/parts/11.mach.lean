/-! String.checkIndex, Preconditions.checkIndex: on the road where the index is in range -/
theorem jk_ks : gKs RJ0 1059 yJ3_checkIndex_8e157 cJ3_checkIndex_8e157 3 (some .int) 3 := ⟨gW_of (List.mem_of_getElem? (i := 575) (by decide +kernel)) (by decide +kernel), Or.inl (gW_of (List.mem_of_getElem? (i := 573) (by decide +kernel)) (by decide +kernel)), gW_of (List.mem_of_getElem? (i := 574) (by decide +kernel)) (by decide +kernel), gW_of (List.mem_of_getElem? (i := 94) (by decide +kernel)) (by decide +kernel), ⟨by decide +kernel, by decide +kernel, by decide +kernel⟩⟩
theorem jk_kg : Cond.fieldLink RJ0 1053 "jdk/internal/util/Preconditions" "SIOOBE_FORMATTER" "Ljava/util/function/BiFunction;" ∈ gW := gW_of (List.mem_of_getElem? (i := 571) (by decide +kernel)) (by decide +kernel)
set_option maxHeartbeats 4000000 in
set_option maxRecDepth 100000 in
theorem mJ3_checkIndex (l : Launch) {B0 : Nat} {D : va_G} {v : Nat → Nat} {G : gH} {a0 a1 : Int32} {o : Option Nat} (h0 : ¬ a0 < 0) (h1 : a0 < a1) : Met l yJ3_checkIndex_8e157 (.code yJ3_checkIndex_8e157 cJ3_checkIndex_8e157 3 (some .int) :: gW) ({ frames := 0, cells := 0, slots := 0, locals := 0 } : Room) (gPre B0 D v [.int a0, .int a1, va_rf o] G) (gQ B0 D v (some (.int a0)) G) 0 0 (gA B0) := by
  cases o with
  | none =>
    refine g_met (lv := [(0, .int a0), (1, .int a1), (2, .null)]) (by decide) (Nat.le_of_ble_eq_true rfl) rfl ?_
    intro p e s m below meth c hM hR ls hl
    obtain ⟨hx, hb, hr, hml, hown, hts, hlocks, hnm⟩ := id hM
    have hS : va_S (gA B0) s.heap s.heap [] := va_S.rf
    refine lv_iload_n hx hb dJ3_checkIndex_8e157_0 rfl (lv_at hl 0 rfl) ?_
    refine lv_if_lt (tgt := 9) hx hb dJ3_checkIndex_8e157_1 (by decide) (fun h => absurd h h0) (fun _ => ?_)
    refine lv_iload_n hx hb dJ3_checkIndex_8e157_4 rfl (lv_at hl 0 rfl) ?_
    refine lv_iload_n hx hb dJ3_checkIndex_8e157_5 rfl (lv_at hl 1 rfl) ?_
    refine lv_icmp_lt (tgt := 16) hx hb dJ3_checkIndex_8e157_6 (by decide) (fun _ => ?_) (fun h => absurd h1 h)
    refine lv_iload_n hx hb dJ3_checkIndex_8e157_16 rfl (lv_at hl 0 rfl) ?_
    exact g_iret hx hb hr hlocks hR hS dJ3_checkIndex_8e157_17 rfl rfl
  | some y =>
    refine g_met (lv := [(0, .int a0), (1, .int a1), (2, .ref y)]) (by decide) (Nat.le_of_ble_eq_true rfl) rfl ?_
    intro p e s m below meth c hM hR ls hl
    obtain ⟨hx, hb, hr, hml, hown, hts, hlocks, hnm⟩ := id hM
    have hS : va_S (gA B0) s.heap s.heap [] := va_S.rf
    refine lv_iload_n hx hb dJ3_checkIndex_8e157_0 rfl (lv_at hl 0 rfl) ?_
    refine lv_if_lt (tgt := 9) hx hb dJ3_checkIndex_8e157_1 (by decide) (fun h => absurd h h0) (fun _ => ?_)
    refine lv_iload_n hx hb dJ3_checkIndex_8e157_4 rfl (lv_at hl 0 rfl) ?_
    refine lv_iload_n hx hb dJ3_checkIndex_8e157_5 rfl (lv_at hl 1 rfl) ?_
    refine lv_icmp_lt (tgt := 16) hx hb dJ3_checkIndex_8e157_6 (by decide) (fun _ => ?_) (fun h => absurd h1 h)
    refine lv_iload_n hx hb dJ3_checkIndex_8e157_16 rfl (lv_at hl 0 rfl) ?_
    exact g_iret hx hb hr hlocks hR hS dJ3_checkIndex_8e157_17 rfl rfl
set_option maxHeartbeats 4000000 in
set_option maxRecDepth 100000 in
theorem mJ0_checkIndex_df160 (l : Launch) {B0 : Nat} {D : va_G} {v : Nat → Nat} {G : gH} {a0 a1 : Int32} {r : Unit} (hf : fJ0_checkIndex_df160 v G a0 a1 = some r) : Met l yJ0_checkIndex_df160 (.code yJ0_checkIndex_df160 cJ0_checkIndex_df160 2 none :: gW) ({ frames := 1, cells := 0, slots := 0, locals := 22 } : Room) (gPre B0 D v [.int a0, .int a1] G) (gQ B0 D v none G) 0 0 (gA B0) := by
  refine g_met (lv := [(0, .int a0), (1, .int a1)]) (by decide) (Nat.le_of_ble_eq_true rfl) rfl ?_
  intro p e s m below meth c hM hR ls hl
  obtain ⟨hx, hb, hr, hml, hown, hts, hlocks, hnm⟩ := id hM
  have hS : va_S (gA B0) s.heap s.heap [] := va_S.rf
  unfold fJ0_checkIndex_df160 at hf
  have h0 : ¬ a0 < 0 := fun h => by rw [if_pos h] at hf; cases hf
  rw [if_neg h0] at hf
  have h1 : a0 < a1 := by
    by_cases h : a0 < a1
    · exact h
    · rw [if_neg h] at hf; cases hf
  refine lv_iload_n hx hb dJ0_checkIndex_df160_0 rfl (lv_at hl 0 rfl) ?_
  refine lv_iload_n hx hb dJ0_checkIndex_df160_1 rfl (lv_at hl 1 rfl) ?_
  refine g_gets (i := 7) hx hb hts hown hR rfl rfl jk_kg dJ0_checkIndex_df160_2 ?_
  refine g_callS0 (st1 := [.int a0]) [] hx hb hml hown hts hR hS jk_ks (mJ3_checkIndex l (o := if v 8 = 0 then none else some (v 9)) h0 h1) ⟨rfl, rfl, Nat.le_of_ble_eq_true rfl, Nat.le_of_ble_eq_true rfl⟩ hl.1 rfl (Nat.le_of_ble_eq_true rfl) dJ0_checkIndex_df160_5 ⟨Nat.zero_le _, Nat.zero_le _⟩ rfl rfl (fun H locs hR hS => ?_)
  refine lv_pop hx hb dJ0_checkIndex_df160_8 rfl ?_
  exact g_vret hx hb hr hlocks hR hS dJ0_checkIndex_df160_9 rfl

theorem oX7_empty {v : Nat → Nat} {G : gH} {a0 : Nat} {r : gH} (h : fX7_empty v G a0 = some r) : gOb G a0 7 = some () := by
  unfold fX7_empty at h
  obtain ⟨u, hu, -⟩ := gb h
  exact hu
set_option maxHeartbeats 4000000 in
set_option maxRecDepth 100000 in
theorem mX7_empty (l : Launch) {B0 : Nat} {D : va_G} {v : Nat → Nat} {G : gH} {a0 : Nat} {r : gH} (hf : fX7_empty v G a0 = some r) : Met l yX7_empty (.code yX7_empty cX7_empty 1 none :: gW) ({ frames := 0, cells := 0, slots := 0, locals := 0 } : Room) (gPre B0 D v [.ref a0] G) (gQ B0 D v none r) 0 0 (gA B0) := by
  refine g_met (lv := [(0, .ref a0)]) (by decide) (Nat.le_of_ble_eq_true rfl) rfl ?_
  intro p e s m below meth c hM hR ls hl
  obtain ⟨hx, hb, hr, hml, hown, hts, hlocks, hnm⟩ := id hM
  have hS : va_S (gA B0) s.heap s.heap [] := va_S.rf
  unfold fX7_empty at hf
  obtain ⟨-, -, hf⟩ := gb hf
  refine lv_aload_n hx hb dX7_empty_0 rfl (lv_at hl 0 rfl) ?_
  refine lv_iconst (v := (0 : Int32)) hx hb dX7_empty_1 (by decide) ?_
  refine g_put hx hb hts hown hR hS lpX7_9 (Or.inl rfl) rfl rfl dX7_empty_2 hf (fun G1 H locs hf hR hS => ?_)
  have hf := Option.some.inj hf
  subst hf
  exact g_vret hx hb hr hlocks hR hS dX7_empty_5 rfl
theorem oX0_forget {v : Nat → Nat} {G : gH} {a0 : Nat} {r : gH} (h : fX0_forget v G a0 = some r) : gOb G a0 0 = some () := by
  unfold fX0_forget at h
  obtain ⟨u, hu, -⟩ := gb h
  exact hu
set_option maxHeartbeats 4000000 in
set_option maxRecDepth 100000 in
theorem mX0_forget (l : Launch) {B0 : Nat} {D : va_G} {v : Nat → Nat} {G : gH} {a0 : Nat} {r : gH} (hf : fX0_forget v G a0 = some r) : Met l yX0_forget (.code yX0_forget cX0_forget 1 none :: gW) ({ frames := 1, cells := 0, slots := 0, locals := 20 } : Room) (gPre B0 D v [.ref a0] G) (gQ B0 D v none r) 0 0 (gA B0) := by
  refine g_met (lv := [(0, .ref a0)]) (by decide) (Nat.le_of_ble_eq_true rfl) rfl ?_
  intro p e s m below meth c hM hR ls hl
  obtain ⟨hx, hb, hr, hml, hown, hts, hlocks, hnm⟩ := id hM
  have hS : va_S (gA B0) s.heap s.heap [] := va_S.rf
  unfold fX0_forget at hf
  obtain ⟨-, -, hf⟩ := gb hf
  refine lv_aload_n hx hb dX0_forget_0 rfl (lv_at hl 0 rfl) ?_
  refine g_getR hx hb hts hown hR lkX0_14 dX0_forget_1 hf (fun x1 hf => ?_)
  obtain ⟨x2, h3, hf⟩ := gb hf
  refine g_callV0 (st1 := []) [] hx hb hml hown hts hR hS kvX0_45 (mX7_empty l h3) (oX7_empty h3) ⟨rfl, rfl, Nat.le_of_ble_eq_true rfl, Nat.le_of_ble_eq_true rfl⟩ hl.1 rfl (Nat.le_of_ble_eq_true rfl) dX0_forget_4 ⟨Nat.zero_le _, Nat.zero_le _⟩ rfl rfl (fun H locs hR hS => ?_)
  refine lv_aload_n hx hb dX0_forget_7 rfl (lv_at hl 0 rfl) ?_
  refine g_getR hx hb hts hown hR lkX0_20 dX0_forget_8 hf (fun x4 hf => ?_)
  obtain ⟨x5, h6, hf⟩ := gb hf
  refine g_callV0 (st1 := []) [] hx hb hml hown hts hR hS kvX0_45 (mX7_empty l h6) (oX7_empty h6) ⟨rfl, rfl, Nat.le_of_ble_eq_true rfl, Nat.le_of_ble_eq_true rfl⟩ hl.1 rfl (Nat.le_of_ble_eq_true rfl) dX0_forget_11 ⟨Nat.zero_le _, Nat.zero_le _⟩ rfl rfl (fun H locs hR hS => ?_)
  refine lv_aload_n hx hb dX0_forget_14 rfl (lv_at hl 0 rfl) ?_
  refine lv_ldc2 (v := (-1 : Int64)) hx hb hown (hts _ kcX0_23) dX0_forget_15 ?_
  refine g_put hx hb hts hown hR hS lpX0_25 (Or.inl rfl) rfl rfl dX0_forget_18 hf (fun G7 H locs hf hR hS => ?_)
  refine lv_aload_n hx hb dX0_forget_21 rfl (lv_at hl 0 rfl) ?_
  refine lv_ldc2 (v := (-1 : Int64)) hx hb hown (hts _ kcX0_23) dX0_forget_22 ?_
  refine g_put hx hb hts hown hR hS lpX0_29 (Or.inl rfl) rfl rfl dX0_forget_25 hf (fun G8 H locs hf hR hS => ?_)
  refine lv_aload_n hx hb dX0_forget_28 rfl (lv_at hl 0 rfl) ?_
  refine lv_ldc2 (v := (-1 : Int64)) hx hb hown (hts _ kcX0_23) dX0_forget_29 ?_
  refine g_put hx hb hts hown hR hS lpX0_32 (Or.inl rfl) rfl rfl dX0_forget_32 hf (fun G9 H locs hf hR hS => ?_)
  refine lv_aload_n hx hb dX0_forget_35 rfl (lv_at hl 0 rfl) ?_
  refine lv_iconst (v := (0 : Int32)) hx hb dX0_forget_36 (by decide) ?_
  refine g_zz hf (fun h11 h12 hf => ?_)
  refine g_put hx hb hts hown hR hS lpX0_35 (Or.inl rfl) h11 h12 dX0_forget_37 hf (fun G13 H locs hf hR hS => ?_)
  have hf := Option.some.inj hf
  subst hf
  exact g_vret hx hb hr hlocks hR hS dX0_forget_40 rfl
theorem oX7_count {v : Nat → Nat} {G : gH} {a0 : Nat} {r : Int32} (h : fX7_count v G a0 = some r) : gOb G a0 7 = some () := by
  unfold fX7_count at h
  obtain ⟨u, hu, -⟩ := gb h
  exact hu
set_option maxHeartbeats 4000000 in
set_option maxRecDepth 100000 in
theorem mX7_count (l : Launch) {B0 : Nat} {D : va_G} {v : Nat → Nat} {G : gH} {a0 : Nat} {r : Int32} (hf : fX7_count v G a0 = some r) : Met l yX7_count (.code yX7_count cX7_count 1 (some .int) :: gW) ({ frames := 0, cells := 0, slots := 0, locals := 0 } : Room) (gPre B0 D v [.ref a0] G) (gQ B0 D v (some (.int r)) G) 0 0 (gA B0) := by
  refine g_met (lv := [(0, .ref a0)]) (by decide) (Nat.le_of_ble_eq_true rfl) rfl ?_
  intro p e s m below meth c hM hR ls hl
  obtain ⟨hx, hb, hr, hml, hown, hts, hlocks, hnm⟩ := id hM
  have hS : va_S (gA B0) s.heap s.heap [] := va_S.rf
  unfold fX7_count at hf
  obtain ⟨-, -, hf⟩ := gb hf
  refine lv_aload_n hx hb dX7_count_0 rfl (lv_at hl 0 rfl) ?_
  refine g_getI hx hb hts hown hR lkX7_9 dX7_count_1 hf (fun x1 hf => ?_)
  have hf := Option.some.inj hf
  subst hf
  exact g_iret hx hb hr hlocks hR hS dX7_count_4 rfl rfl
set_option maxHeartbeats 4000000 in
set_option maxRecDepth 100000 in
theorem uX0_tellsSomething_54 {p : Program} {l : Launch} {e : Env} {s : State} {m : MethodId} {args : Array Value} {below : List Frame} {meth : Method} {c : Code} {B0 : Nat} {D : va_G} {v : Nat → Nat} {r : Int32} {G : gH} (hM : gM p s m args meth c cX0_tellsSomething 1 RX0 "tellsSomething" (some .boolean)) (hf : jX0_tellsSomething_54 v G = some r) (H : Heap) (locs : List Loc) (hR : gRep B0 D v G s H) (hS : va_S (gA B0) s.heap H locs) (ls : Array Slot) (hl : lv_has ls 1 []) : W p l e ({ frames := 1, cells := 0, slots := 0, locals := 20 } : Room) s m args below meth c H locs 0 0 (MQ below (gQ B0 D v (some (.int r)) G) args s 0 0 (gA B0)) (F0 m 54 ls []) := by
  obtain ⟨hx, hb, hr, hml, hown, hts, hlocks, hnm⟩ := id hM
  unfold jX0_tellsSomething_54 at hf
  refine lv_iconst (v := (1 : Int32)) hx hb dX0_tellsSomething_54 (by decide) ?_
  refine lv_goto (tgt := 59) hx hb dX0_tellsSomething_55 (by decide) ?_
  refine g_zz hf (fun h1 _ hf => ?_)
  have hf := Option.some.inj hf
  subst hf
  exact g_zret hx hb hr hlocks hR hS dX0_tellsSomething_59 h1 rfl rfl
theorem oX0_tellsSomething {v : Nat → Nat} {G : gH} {a0 : Nat} {r : Int32} (h : fX0_tellsSomething v G a0 = some r) : gOb G a0 0 = some () := by
  unfold fX0_tellsSomething at h
  obtain ⟨u, hu, -⟩ := gb h
  exact hu
set_option maxHeartbeats 4000000 in
set_option maxRecDepth 100000 in
theorem mX0_tellsSomething (l : Launch) {B0 : Nat} {D : va_G} {v : Nat → Nat} {G : gH} {a0 : Nat} {r : Int32} (hf : fX0_tellsSomething v G a0 = some r) : Met l yX0_tellsSomething (.code yX0_tellsSomething cX0_tellsSomething 1 (some .boolean) :: gW) ({ frames := 1, cells := 0, slots := 0, locals := 20 } : Room) (gPre B0 D v [.ref a0] G) (gQ B0 D v (some (.int r)) G) 0 0 (gA B0) := by
  refine g_met (lv := [(0, .ref a0)]) (by decide) (Nat.le_of_ble_eq_true rfl) rfl ?_
  intro p e s m below meth c hM hR ls hl
  obtain ⟨hx, hb, hr, hml, hown, hts, hlocks, hnm⟩ := id hM
  have hS : va_S (gA B0) s.heap s.heap [] := va_S.rf
  unfold fX0_tellsSomething at hf
  obtain ⟨-, -, hf⟩ := gb hf
  refine lv_aload_n hx hb dX0_tellsSomething_0 rfl (lv_at hl 0 rfl) ?_
  refine g_getR hx hb hts hown hR lkX0_14 dX0_tellsSomething_1 hf (fun x1 hf => ?_)
  obtain ⟨x2, h3, hf⟩ := gb hf
  refine g_callV0 (st1 := [.int x2]) [] hx hb hml hown hts hR hS kvX0_48 (mX7_count l h3) (oX7_count h3) ⟨rfl, rfl, Nat.le_of_ble_eq_true rfl, Nat.le_of_ble_eq_true rfl⟩ hl.1 rfl (Nat.le_of_ble_eq_true rfl) dX0_tellsSomething_4 ⟨Nat.zero_le _, Nat.zero_le _⟩ rfl rfl (fun H locs hR hS => ?_)
  refine g_if_gt (tgt := 54) hx hb dX0_tellsSomething_7 (by decide) hf (fun h4 hf => ?_) (fun h4 hf => ?_)
  · exact uX0_tellsSomething_54 hM  hf _ _ hR hS ls (lv_sub hl [] rfl)
  · refine lv_aload_n hx hb dX0_tellsSomething_10 rfl (lv_at hl 0 rfl) ?_
    refine g_getR hx hb hts hown hR lkX0_20 dX0_tellsSomething_11 hf (fun x5 hf => ?_)
    obtain ⟨x6, h7, hf⟩ := gb hf
    refine g_callV0 (st1 := [.int x6]) [] hx hb hml hown hts hR hS kvX0_48 (mX7_count l h7) (oX7_count h7) ⟨rfl, rfl, Nat.le_of_ble_eq_true rfl, Nat.le_of_ble_eq_true rfl⟩ hl.1 rfl (Nat.le_of_ble_eq_true rfl) dX0_tellsSomething_14 ⟨Nat.zero_le _, Nat.zero_le _⟩ rfl rfl (fun H locs hR hS => ?_)
    refine g_if_gt (tgt := 54) hx hb dX0_tellsSomething_17 (by decide) hf (fun h8 hf => ?_) (fun h8 hf => ?_)
    · exact uX0_tellsSomething_54 hM  hf _ _ hR hS ls (lv_sub hl [] rfl)
    · refine lv_aload_n hx hb dX0_tellsSomething_20 rfl (lv_at hl 0 rfl) ?_
      refine g_getJ hx hb hts hown hR lkX0_25 dX0_tellsSomething_21 hf (fun x9 hf => ?_)
      refine lv_lconst (v := (0 : Int64)) hx hb dX0_tellsSomething_24 (by decide) ?_
      refine g_lif_ge (tgt := 54) hx hb dX0_tellsSomething_25 dX0_tellsSomething_26 (by decide) hf (fun h10 hf => ?_) (fun h10 hf => ?_)
      · exact uX0_tellsSomething_54 hM  hf _ _ hR hS ls (lv_sub hl [] rfl)
      · refine lv_aload_n hx hb dX0_tellsSomething_29 rfl (lv_at hl 0 rfl) ?_
        refine g_getJ hx hb hts hown hR lkX0_29 dX0_tellsSomething_30 hf (fun x11 hf => ?_)
        refine lv_lconst (v := (0 : Int64)) hx hb dX0_tellsSomething_33 (by decide) ?_
        refine g_lif_ge (tgt := 54) hx hb dX0_tellsSomething_34 dX0_tellsSomething_35 (by decide) hf (fun h12 hf => ?_) (fun h12 hf => ?_)
        · exact uX0_tellsSomething_54 hM  hf _ _ hR hS ls (lv_sub hl [] rfl)
        · refine lv_aload_n hx hb dX0_tellsSomething_38 rfl (lv_at hl 0 rfl) ?_
          refine g_getJ hx hb hts hown hR lkX0_32 dX0_tellsSomething_39 hf (fun x13 hf => ?_)
          refine lv_lconst (v := (0 : Int64)) hx hb dX0_tellsSomething_42 (by decide) ?_
          refine g_lif_ge (tgt := 54) hx hb dX0_tellsSomething_43 dX0_tellsSomething_44 (by decide) hf (fun h14 hf => ?_) (fun h14 hf => ?_)
          · exact uX0_tellsSomething_54 hM  hf _ _ hR hS ls (lv_sub hl [] rfl)
          · refine lv_aload_n hx hb dX0_tellsSomething_47 rfl (lv_at hl 0 rfl) ?_
            refine g_getI hx hb hts hown hR lkX0_35 dX0_tellsSomething_48 hf (fun x15 hf => ?_)
            refine g_if_eq (tgt := 58) hx hb dX0_tellsSomething_51 (by decide) hf (fun h16 hf => ?_) (fun h16 hf => ?_)
            · refine lv_iconst (v := (0 : Int32)) hx hb dX0_tellsSomething_58 (by decide) ?_
              refine g_zz hf (fun h17 _ hf => ?_)
              have hf := Option.some.inj hf
              subst hf
              exact g_zret hx hb hr hlocks hR hS dX0_tellsSomething_59 h17 rfl rfl
            · exact uX0_tellsSomething_54 hM  hf _ _ hR hS ls (lv_sub hl [] rfl)
theorem oX7_at {v : Nat → Nat} {G : gH} {a0 : Nat} {a1 : Int32} {r : Int32} (h : fX7_at v G a0 a1 = some r) : gOb G a0 7 = some () := by
  unfold fX7_at at h
  obtain ⟨u, hu, -⟩ := gb h
  exact hu
set_option maxHeartbeats 4000000 in
set_option maxRecDepth 100000 in
theorem mX7_at (l : Launch) {B0 : Nat} {D : va_G} {v : Nat → Nat} {G : gH} {a0 : Nat} {a1 : Int32} {r : Int32} (hf : fX7_at v G a0 a1 = some r) : Met l yX7_at (.code yX7_at cX7_at 2 (some .int) :: gW) ({ frames := 0, cells := 0, slots := 0, locals := 0 } : Room) (gPre B0 D v [.ref a0, .int a1] G) (gQ B0 D v (some (.int r)) G) 0 0 (gA B0) := by
  refine g_met (lv := [(0, .ref a0), (1, .int a1)]) (by decide) (Nat.le_of_ble_eq_true rfl) rfl ?_
  intro p e s m below meth c hM hR ls hl
  obtain ⟨hx, hb, hr, hml, hown, hts, hlocks, hnm⟩ := id hM
  have hS : va_S (gA B0) s.heap s.heap [] := va_S.rf
  unfold fX7_at at hf
  obtain ⟨-, -, hf⟩ := gb hf
  refine lv_iload_n hx hb dX7_at_0 rfl (lv_at hl 1 rfl) ?_
  refine g_if_lt (tgt := 34) hx hb dX7_at_1 (by decide) hf (fun h1 hf => ?_) (fun h1 hf => ?_)
  · refine lv_iconst (v := (-1 : Int32)) hx hb dX7_at_34 (by decide) ?_
    have hf := Option.some.inj hf
    subst hf
    exact g_iret hx hb hr hlocks hR hS dX7_at_35 rfl rfl
  · refine lv_iload_n hx hb dX7_at_4 rfl (lv_at hl 1 rfl) ?_
    refine lv_aload_n hx hb dX7_at_5 rfl (lv_at hl 0 rfl) ?_
    refine g_getI hx hb hts hown hR lkX7_9 dX7_at_6 hf (fun x2 hf => ?_)
    refine g_icmp_ge (tgt := 34) hx hb dX7_at_9 (by decide) hf (fun h3 hf => ?_) (fun h3 hf => ?_)
    · refine lv_iconst (v := (-1 : Int32)) hx hb dX7_at_34 (by decide) ?_
      have hf := Option.some.inj hf
      subst hf
      exact g_iret hx hb hr hlocks hR hS dX7_at_35 rfl rfl
    · refine lv_iload_n hx hb dX7_at_12 rfl (lv_at hl 1 rfl) ?_
      refine lv_aload_n hx hb dX7_at_13 rfl (lv_at hl 0 rfl) ?_
      refine g_getR hx hb hts hown hR lkX7_21 dX7_at_14 hf (fun x4 hf => ?_)
      refine g_lenW hx hb hR dX7_at_17 hf (fun x5 hf => ?_)
      refine g_icmp_ge (tgt := 34) hx hb dX7_at_18 (by decide) hf (fun h6 hf => ?_) (fun h6 hf => ?_)
      · refine lv_iconst (v := (-1 : Int32)) hx hb dX7_at_34 (by decide) ?_
        have hf := Option.some.inj hf
        subst hf
        exact g_iret hx hb hr hlocks hR hS dX7_at_35 rfl rfl
      · refine lv_aload_n hx hb dX7_at_21 rfl (lv_at hl 0 rfl) ?_
        refine g_getR hx hb hts hown hR lkX7_21 dX7_at_22 hf (fun x7 hf => ?_)
        refine lv_iload_n hx hb dX7_at_25 rfl (lv_at hl 1 rfl) ?_
        refine g_bald hx hb hR dX7_at_26 hf (fun x8 hf => ?_)
        refine lv_sipush (v := (255 : Int32)) hx hb dX7_at_27 (by decide) ?_
        refine lv_iand hx hb dX7_at_30 ?_
        refine lv_goto (tgt := 35) hx hb dX7_at_31 (by decide) ?_
        have hf := Option.some.inj hf
        subst hf
        exact g_iret hx hb hr hlocks hR hS dX7_at_35 rfl rfl
set_option maxHeartbeats 4000000 in
set_option maxRecDepth 100000 in
theorem wX7_find_3 {p : Program} {l : Launch} {e : Env} {s : State} {m : MethodId} {args : Array Value} {below : List Frame} {meth : Method} {c : Code} {B0 : Nat} {D : va_G} {v : Nat → Nat} {r : Int32} {G : gH} (hM : gM p s m args meth c cX7_find 5 RX7 "find" (some .int)) : ∀ (n : Nat) (y0 : Nat) (y1 : Int32) (y3 : Int32) (y4 : Int32), lX7_find_3 v G n y0 y1 y3 y4 = some r → ∀ (H : Heap) (locs : List Loc), gRep B0 D v G s H → va_S (gA B0) s.heap H locs → ∀ (ls : Array Slot), lv_has ls 5 [(0, .ref y0), (1, .int y1), (3, .int y3), (4, .int y4)] → W p l e ({ frames := 1, cells := 0, slots := 0, locals := 21 } : Room) s m args below meth c H locs 0 0 (MQ below (gQ B0 D v (some (.int r)) G) args s 0 0 (gA B0)) (F0 m 3 ls []) := by
  obtain ⟨hx, hb, hr, hml, hown, hts, hlocks, hnm⟩ := id hM
  intro n
  induction n with
  | zero => intro y0 y1 y3 y4 hf; cases hf
  | succ n ih =>
    intro y0 y1 y3 y4 hf H locs hR hS ls hl
    have hK : ∀ (K : Nat → Int32 → Int32 → Int32 → Option Int32), K = lX7_find_3 v G n → (∀ (q0 : Nat) (q1 : Int32) (q3 : Int32) (q4 : Int32) (H : Heap) (locs : List Loc) (ls : Array Slot), K q0 q1 q3 q4 = some r → gRep B0 D v G s H → va_S (gA B0) s.heap H locs → lv_has ls 5 [(0, .ref q0), (1, .int q1), (3, .int q3), (4, .int q4)] → W p l e ({ frames := 1, cells := 0, slots := 0, locals := 21 } : Room) s m args below meth c H locs 0 0 (MQ below (gQ B0 D v (some (.int r)) G) args s 0 0 (gA B0)) (F0 m 3 ls [])) := fun K hk q0 q1 q3 q4 H locs ls h1 h2 h3 h4 => ih q0 q1 q3 q4 (by rw [← hk]; exact h1) H locs h2 h3 ls h4
    have hf : bX7_find_3 v G (lX7_find_3 v G n) y0 y1 y3 y4 = some r := hf
    have hK := hK _ rfl
    generalize lX7_find_3 v G n = K at hf hK
    unfold bX7_find_3 at hf
    refine lv_iload hx hb dX7_find_3 (lv_at hl 3 rfl) ?_
    refine lv_iload_n hx hb dX7_find_5 rfl (lv_at hl 2 rfl) ?_
    refine g_icmp_ge (tgt := 28) hx hb dX7_find_6 (by decide) hf (fun h1 hf => ?_) (fun h1 hf => ?_)
    · refine lv_iload_n hx hb dX7_find_28 rfl (lv_at hl 2 rfl) ?_
      have hf := Option.some.inj hf
      subst hf
      exact g_iret hx hb hr hlocks hR hS dX7_find_29 rfl rfl
    · refine lv_aload_n hx hb dX7_find_9 rfl (lv_at hl 0 rfl) ?_
      refine lv_iload hx hb dX7_find_10 (lv_at hl 3 rfl) ?_
      obtain ⟨x2, h3, hf⟩ := gb hf
      refine g_callV0 (st1 := [.int x2]) [] hx hb hml hown hts hR hS kvX7_33 (mX7_at l h3) (oX7_at h3) ⟨rfl, rfl, Nat.le_of_ble_eq_true rfl, Nat.le_of_ble_eq_true rfl⟩ hl.1 rfl (Nat.le_of_ble_eq_true rfl) dX7_find_12 ⟨Nat.zero_le _, Nat.zero_le _⟩ rfl rfl (fun H locs hR hS => ?_)
      refine lv_iload_n hx hb dX7_find_15 rfl (lv_at hl 1 rfl) ?_
      refine g_icmp_ne (tgt := 22) hx hb dX7_find_16 (by decide) hf (fun h4 hf => ?_) (fun h4 hf => ?_)
      · refine g_iinc (k := 3) (n' := (1 : Int32)) (lv2 := [(0, .ref y0), (1, .int y1), (3, .int y3)]) hx hb dX7_find_22 hl rfl (by decide) (by decide) rfl hf (fun x5 ls hf hl => ?_)
        refine lv_goto (tgt := 3) hx hb dX7_find_25 (by decide) ?_
        exact hK y0 y1 y3 x5 _ _ ls hf hR hS (lv_sub hl [1, 2, 3, 0] rfl)
      · refine lv_iload hx hb dX7_find_19 (lv_at hl 3 rfl) ?_
        have hf := Option.some.inj hf
        subst hf
        exact g_iret hx hb hr hlocks hR hS dX7_find_21 rfl rfl
theorem oX7_find {v : Nat → Nat} {G : gH} {a0 : Nat} {a1 : Int32} {a2 : Int32} {a3 : Int32} {r : Int32} (h : fX7_find v G a0 a1 a2 a3 = some r) : gOb G a0 7 = some () := by
  unfold fX7_find at h
  obtain ⟨u, hu, -⟩ := gb h
  exact hu
set_option maxHeartbeats 4000000 in
set_option maxRecDepth 100000 in
theorem mX7_find (l : Launch) {B0 : Nat} {D : va_G} {v : Nat → Nat} {G : gH} {a0 : Nat} {a1 : Int32} {a2 : Int32} {a3 : Int32} {r : Int32} (hf : fX7_find v G a0 a1 a2 a3 = some r) : Met l yX7_find (.code yX7_find cX7_find 5 (some .int) :: gW) ({ frames := 1, cells := 0, slots := 0, locals := 21 } : Room) (gPre B0 D v [.ref a0, .int a1, .int a2, .int a3] G) (gQ B0 D v (some (.int r)) G) 0 0 (gA B0) := by
  refine g_met (lv := [(0, .ref a0), (1, .int a1), (2, .int a2), (3, .int a3)]) (by decide) (Nat.le_of_ble_eq_true rfl) rfl ?_
  intro p e s m below meth c hM hR ls hl
  obtain ⟨hx, hb, hr, hml, hown, hts, hlocks, hnm⟩ := id hM
  have hS : va_S (gA B0) s.heap s.heap [] := va_S.rf
  unfold fX7_find at hf
  obtain ⟨-, -, hf⟩ := gb hf
  refine lv_iload_n hx hb dX7_find_0 rfl (lv_at hl 2 rfl) ?_
  refine lv_istore (lv' := [(4, .int a2), (0, .ref a0), (1, .int a1), (2, .int a2), (3, .int a3)]) hx hb dX7_find_1 hl (by decide) rfl (fun ls hl => ?_)
  exact wX7_find_3 hM gFu a0 a1 a3 a2 hf _ _ hR hS ls (lv_sub hl [1, 2, 4, 0] rfl)
set_option maxHeartbeats 4000000 in
set_option maxRecDepth 100000 in
theorem wX7_decimal_24 {p : Program} {l : Launch} {e : Env} {s : State} {m : MethodId} {args : Array Value} {below : List Frame} {meth : Method} {c : Code} {B0 : Nat} {D : va_G} {v : Nat → Nat} {r : Int64} {G : gH} (hM : gM p s m args meth c cX7_decimal 8 RX7 "decimal" (some .long)) : ∀ (n : Nat) (y0 : Nat) (y2 : Int32) (y4 : Int64) (y6 : Int32), lX7_decimal_24 v G n y0 y2 y4 y6 = some r → ∀ (H : Heap) (locs : List Loc), gRep B0 D v G s H → va_S (gA B0) s.heap H locs → ∀ (ls : Array Slot), lv_has ls 8 [(0, .ref y0), (2, .int y2), (4, .long y4), (6, .int y6)] → W p l e ({ frames := 1, cells := 0, slots := 0, locals := 21 } : Room) s m args below meth c H locs 0 0 (MQ below (gQ B0 D v (some (.long r)) G) args s 0 0 (gA B0)) (F0 m 24 ls []) := by
  obtain ⟨hx, hb, hr, hml, hown, hts, hlocks, hnm⟩ := id hM
  intro n
  induction n with
  | zero => intro y0 y2 y4 y6 hf; cases hf
  | succ n ih =>
    intro y0 y2 y4 y6 hf H locs hR hS ls hl
    have hK : ∀ (K : Nat → Int32 → Int64 → Int32 → Option Int64), K = lX7_decimal_24 v G n → (∀ (q0 : Nat) (q2 : Int32) (q4 : Int64) (q6 : Int32) (H : Heap) (locs : List Loc) (ls : Array Slot), K q0 q2 q4 q6 = some r → gRep B0 D v G s H → va_S (gA B0) s.heap H locs → lv_has ls 8 [(0, .ref q0), (2, .int q2), (4, .long q4), (6, .int q6)] → W p l e ({ frames := 1, cells := 0, slots := 0, locals := 21 } : Room) s m args below meth c H locs 0 0 (MQ below (gQ B0 D v (some (.long r)) G) args s 0 0 (gA B0)) (F0 m 24 ls [])) := fun K hk q0 q2 q4 q6 H locs ls h1 h2 h3 h4 => ih q0 q2 q4 q6 (by rw [← hk]; exact h1) H locs h2 h3 ls h4
    have hf : bX7_decimal_24 v G (lX7_decimal_24 v G n) y0 y2 y4 y6 = some r := hf
    have hK := hK _ rfl
    generalize lX7_decimal_24 v G n = K at hf hK
    unfold bX7_decimal_24 at hf
    refine lv_iload hx hb dX7_decimal_24 (lv_at hl 3 rfl) ?_
    refine lv_iload_n hx hb dX7_decimal_26 rfl (lv_at hl 1 rfl) ?_
    refine g_icmp_ge (tgt := 75) hx hb dX7_decimal_27 (by decide) hf (fun h1 hf => ?_) (fun h1 hf => ?_)
    · refine lv_lload hx hb dX7_decimal_75 (lv_at hl 2 rfl) ?_
      have hf := Option.some.inj hf
      subst hf
      exact g_lret hx hb hr hlocks hR hS dX7_decimal_77 rfl rfl
    · refine lv_aload_n hx hb dX7_decimal_30 rfl (lv_at hl 0 rfl) ?_
      refine lv_iload hx hb dX7_decimal_31 (lv_at hl 3 rfl) ?_
      obtain ⟨x2, h3, hf⟩ := gb hf
      refine g_callV0 (st1 := [.int x2]) [] hx hb hml hown hts hR hS kvX7_33 (mX7_at l h3) (oX7_at h3) ⟨rfl, rfl, Nat.le_of_ble_eq_true rfl, Nat.le_of_ble_eq_true rfl⟩ hl.1 rfl (Nat.le_of_ble_eq_true rfl) dX7_decimal_33 ⟨Nat.zero_le _, Nat.zero_le _⟩ rfl rfl (fun H locs hR hS => ?_)
      refine lv_bipush (v := (48 : Int32)) hx hb dX7_decimal_36 (by decide) ?_
      refine lv_isub hx hb dX7_decimal_38 ?_
      refine g_nmI hf (fun x4 hf => ?_)
      refine lv_istore (lv' := [(7, .int x4), (0, .ref y0), (2, .int y2), (4, .long y4), (6, .int y6)]) hx hb dX7_decimal_39 hl (by decide) rfl (fun ls hl => ?_)
      refine lv_iload hx hb dX7_decimal_41 (lv_at hl 0 rfl) ?_
      refine g_if_lt (tgt := 53) hx hb dX7_decimal_43 (by decide) hf (fun h5 hf => ?_) (fun h5 hf => ?_)
      · refine lv_ldc2 (v := (-1 : Int64)) hx hb hown (hts _ kcX7_59) dX7_decimal_53 ?_
        have hf := Option.some.inj hf
        subst hf
        exact g_lret hx hb hr hlocks hR hS dX7_decimal_56 rfl rfl
      · refine lv_iload hx hb dX7_decimal_46 (lv_at hl 0 rfl) ?_
        refine lv_bipush (v := (9 : Int32)) hx hb dX7_decimal_48 (by decide) ?_
        refine g_icmp_le (tgt := 57) hx hb dX7_decimal_50 (by decide) hf (fun h6 hf => ?_) (fun h6 hf => ?_)
        · refine lv_lload hx hb dX7_decimal_57 (lv_at hl 3 rfl) ?_
          refine lv_ldc2 (v := (10 : Int64)) hx hb hown (hts _ kcX7_51) dX7_decimal_59 ?_
          refine lv_lmul hx hb dX7_decimal_62 ?_
          refine lv_iload hx hb dX7_decimal_63 (lv_at hl 0 rfl) ?_
          refine lv_i2l hx hb dX7_decimal_65 rfl ?_
          refine lv_ladd hx hb dX7_decimal_66 ?_
          refine g_nmJ hf (fun x7 hf => ?_)
          refine lv_lstore (lv' := [(4, .long x7), (7, .int x4), (0, .ref y0), (2, .int y2), (6, .int y6)]) hx hb dX7_decimal_67 hl (by decide) rfl (fun ls hl => ?_)
          refine g_iinc (k := 4) (n' := (1 : Int32)) (lv2 := [(4, .long x7), (7, .int x4), (0, .ref y0), (2, .int y2)]) hx hb dX7_decimal_69 hl rfl (by decide) (by decide) rfl hf (fun x8 ls hf hl => ?_)
          refine lv_goto (tgt := 24) hx hb dX7_decimal_72 (by decide) ?_
          exact hK y0 y2 x7 x8 _ _ ls hf hR hS (lv_sub hl [3, 4, 1, 0] rfl)
        · refine lv_ldc2 (v := (-1 : Int64)) hx hb hown (hts _ kcX7_59) dX7_decimal_53 ?_
          have hf := Option.some.inj hf
          subst hf
          exact g_lret hx hb hr hlocks hR hS dX7_decimal_56 rfl rfl
theorem oX7_decimal {v : Nat → Nat} {G : gH} {a0 : Nat} {a1 : Int32} {a2 : Int32} {a3 : Int32} {r : Int64} (h : fX7_decimal v G a0 a1 a2 a3 = some r) : gOb G a0 7 = some () := by
  unfold fX7_decimal at h
  obtain ⟨u, hu, -⟩ := gb h
  exact hu
set_option maxHeartbeats 4000000 in
set_option maxRecDepth 100000 in
theorem mX7_decimal (l : Launch) {B0 : Nat} {D : va_G} {v : Nat → Nat} {G : gH} {a0 : Nat} {a1 : Int32} {a2 : Int32} {a3 : Int32} {r : Int64} (hf : fX7_decimal v G a0 a1 a2 a3 = some r) : Met l yX7_decimal (.code yX7_decimal cX7_decimal 8 (some .long) :: gW) ({ frames := 1, cells := 0, slots := 0, locals := 21 } : Room) (gPre B0 D v [.ref a0, .int a1, .int a2, .int a3] G) (gQ B0 D v (some (.long r)) G) 0 0 (gA B0) := by
  refine g_met (lv := [(0, .ref a0), (1, .int a1), (2, .int a2), (3, .int a3)]) (by decide) (Nat.le_of_ble_eq_true rfl) rfl ?_
  intro p e s m below meth c hM hR ls hl
  obtain ⟨hx, hb, hr, hml, hown, hts, hlocks, hnm⟩ := id hM
  have hS : va_S (gA B0) s.heap s.heap [] := va_S.rf
  unfold fX7_decimal at hf
  obtain ⟨-, -, hf⟩ := gb hf
  refine lv_iload_n hx hb dX7_decimal_0 rfl (lv_at hl 2 rfl) ?_
  refine lv_iload_n hx hb dX7_decimal_1 rfl (lv_at hl 1 rfl) ?_
  refine lv_isub hx hb dX7_decimal_2 ?_
  refine lv_iconst (v := (1 : Int32)) hx hb dX7_decimal_3 (by decide) ?_
  refine g_icmp_lt (tgt := 14) hx hb dX7_decimal_4 (by decide) hf (fun h1 hf => ?_) (fun h1 hf => ?_)
  · refine lv_ldc2 (v := (-1 : Int64)) hx hb hown (hts _ kcX7_59) dX7_decimal_14 ?_
    have hf := Option.some.inj hf
    subst hf
    exact g_lret hx hb hr hlocks hR hS dX7_decimal_17 rfl rfl
  · refine lv_iload_n hx hb dX7_decimal_7 rfl (lv_at hl 2 rfl) ?_
    refine lv_iload_n hx hb dX7_decimal_8 rfl (lv_at hl 1 rfl) ?_
    refine lv_isub hx hb dX7_decimal_9 ?_
    refine lv_iload_n hx hb dX7_decimal_10 rfl (lv_at hl 3 rfl) ?_
    refine g_icmp_le (tgt := 18) hx hb dX7_decimal_11 (by decide) hf (fun h2 hf => ?_) (fun h2 hf => ?_)
    · refine lv_lconst (v := (0 : Int64)) hx hb dX7_decimal_18 (by decide) ?_
      refine lv_lstore (lv' := [(4, .long (0 : Int64)), (0, .ref a0), (1, .int a1), (2, .int a2), (3, .int a3)]) hx hb dX7_decimal_19 hl (by decide) rfl (fun ls hl => ?_)
      refine lv_iload_n hx hb dX7_decimal_21 rfl (lv_at hl 2 rfl) ?_
      refine lv_istore (lv' := [(6, .int a1), (4, .long (0 : Int64)), (0, .ref a0), (1, .int a1), (2, .int a2), (3, .int a3)]) hx hb dX7_decimal_22 hl (by decide) rfl (fun ls hl => ?_)
      exact wX7_decimal_24 hM gFu a0 a2 (0 : Int64) a1 hf _ _ hR hS ls (lv_sub hl [2, 4, 1, 0] rfl)
    · refine lv_ldc2 (v := (-1 : Int64)) hx hb hown (hts _ kcX7_59) dX7_decimal_14 ?_
      have hf := Option.some.inj hf
      subst hf
      exact g_lret hx hb hr hlocks hR hS dX7_decimal_17 rfl rfl
set_option maxHeartbeats 4000000 in
set_option maxRecDepth 100000 in
theorem uX0_takeTime_184 {p : Program} {l : Launch} {e : Env} {s : State} {m : MethodId} {args : Array Value} {below : List Frame} {meth : Method} {c : Code} {B0 : Nat} {D : va_G} {v : Nat → Nat} {r : Int32 × gH} (hM : gM p s m args meth c cX0_takeTime 12 RX0 "takeTime" (some .boolean)) (G : gH) (y0 : Nat) (y9 : Int64) (y11 : Int32) (z0 : Int64) (z1 : Nat) (hf : jX0_takeTime_184 v G y0 y9 y11 z0 z1 = some r) (H : Heap) (locs : List Loc) (hR : gRep B0 D v G s H) (hS : va_S (gA B0) s.heap H locs) (ls : Array Slot) (hl : lv_has ls 12 [(0, .ref y0), (9, .long y9), (11, .int y11)]) : W p l e ({ frames := 2, cells := 0, slots := 0, locals := 48 } : Room) s m args below meth c H locs 0 0 (MQ below (gQ B0 D v (some (.int r.1)) r.2) args s 0 0 (gA B0)) (F0 m 184 ls [.long z0, .ref z1]) := by
  obtain ⟨hx, hb, hr, hml, hown, hts, hlocks, hnm⟩ := id hM
  unfold jX0_takeTime_184 at hf
  refine g_put hx hb hts hown hR hS lpX0_39 (Or.inl rfl) rfl rfl dX0_takeTime_184 hf (fun G1 H locs hf hR hS => ?_)
  refine lv_aload_n hx hb dX0_takeTime_187 rfl (lv_at hl 0 rfl) ?_
  refine lv_iload hx hb dX0_takeTime_188 (lv_at hl 2 rfl) ?_
  refine g_if_eq (tgt := 202) hx hb dX0_takeTime_190 (by decide) hf (fun h2 hf => ?_) (fun h2 hf => ?_)
  · refine lv_lload hx hb dX0_takeTime_202 (lv_at hl 1 rfl) ?_
    refine g_put hx hb hts hown hR hS lpX0_42 (Or.inl rfl) rfl rfl dX0_takeTime_204 hf (fun G3 H locs hf hR hS => ?_)
    refine lv_iconst (v := (1 : Int32)) hx hb dX0_takeTime_207 (by decide) ?_
    refine g_zz hf (fun h4 _ hf => ?_)
    have hf := Option.some.inj hf
    subst hf
    exact g_zret hx hb hr hlocks hR hS dX0_takeTime_208 h4 rfl rfl
  · refine lv_ldc2 (v := (1000000000 : Int64)) hx hb hown (hts _ kcX0_66) dX0_takeTime_193 ?_
    refine lv_lload hx hb dX0_takeTime_196 (lv_at hl 1 rfl) ?_
    refine lv_lsub hx hb dX0_takeTime_198 ?_
    refine lv_goto (tgt := 204) hx hb dX0_takeTime_199 (by decide) ?_
    refine g_put hx hb hts hown hR hS lpX0_42 (Or.inl rfl) rfl rfl dX0_takeTime_204 hf (fun G5 H locs hf hR hS => ?_)
    refine lv_iconst (v := (1 : Int32)) hx hb dX0_takeTime_207 (by decide) ?_
    refine g_zz hf (fun h6 _ hf => ?_)
    have hf := Option.some.inj hf
    subst hf
    exact g_zret hx hb hr hlocks hR hS dX0_takeTime_208 h6 rfl rfl
set_option maxHeartbeats 4000000 in
set_option maxRecDepth 100000 in
theorem uX0_takeTime_155 {p : Program} {l : Launch} {e : Env} {s : State} {m : MethodId} {args : Array Value} {below : List Frame} {meth : Method} {c : Code} {B0 : Nat} {D : va_G} {v : Nat → Nat} {r : Int32 × gH} (hM : gM p s m args meth c cX0_takeTime 12 RX0 "takeTime" (some .boolean)) (G : gH) (y0 : Nat) (y4 : Int32) (y7 : Int64) (y9 : Int64) (z0 : Int32) (hf : jX0_takeTime_155 v G y0 y4 y7 y9 z0 = some r) (H : Heap) (locs : List Loc) (hR : gRep B0 D v G s H) (hS : va_S (gA B0) s.heap H locs) (ls : Array Slot) (hl : lv_has ls 12 [(0, .ref y0), (4, .int y4), (7, .long y7), (9, .long y9)]) : W p l e ({ frames := 2, cells := 0, slots := 0, locals := 48 } : Room) s m args below meth c H locs 0 0 (MQ below (gQ B0 D v (some (.int r.1)) r.2) args s 0 0 (gA B0)) (F0 m 155 ls [.int z0]) := by
  obtain ⟨hx, hb, hr, hml, hown, hts, hlocks, hnm⟩ := id hM
  unfold jX0_takeTime_155 at hf
  refine lv_istore (lv' := [(11, .int z0), (0, .ref y0), (4, .int y4), (7, .long y7), (9, .long y9)]) hx hb dX0_takeTime_155 hl (by decide) rfl (fun ls hl => ?_)
  refine lv_aload_n hx hb dX0_takeTime_157 rfl (lv_at hl 1 rfl) ?_
  refine lv_iload hx hb dX0_takeTime_158 (lv_at hl 0 rfl) ?_
  refine g_if_eq (tgt := 171) hx hb dX0_takeTime_160 (by decide) hf (fun h1 hf => ?_) (fun h1 hf => ?_)
  · refine lv_iload hx hb dX0_takeTime_171 (lv_at hl 2 rfl) ?_
    refine g_if_eq (tgt := 182) hx hb dX0_takeTime_173 (by decide) hf (fun h2 hf => ?_) (fun h2 hf => ?_)
    · refine lv_lload hx hb dX0_takeTime_182 (lv_at hl 3 rfl) ?_
      exact uX0_takeTime_184 hM G y0 y9 z0 y7 y0 hf _ _ hR hS ls (lv_sub hl [1, 4, 0] rfl)
    · refine lv_lload hx hb dX0_takeTime_176 (lv_at hl 3 rfl) ?_
      refine lv_lneg hx hb dX0_takeTime_178 ?_
      refine lv_goto (tgt := 184) hx hb dX0_takeTime_179 (by decide) ?_
      exact uX0_takeTime_184 hM G y0 y9 z0 (-y7) y0 hf _ _ hR hS ls (lv_sub hl [1, 4, 0] rfl)
  · refine lv_lload hx hb dX0_takeTime_163 (lv_at hl 3 rfl) ?_
    refine lv_lneg hx hb dX0_takeTime_165 ?_
    refine lv_lconst (v := (1 : Int64)) hx hb dX0_takeTime_166 (by decide) ?_
    refine lv_lsub hx hb dX0_takeTime_167 ?_
    refine lv_goto (tgt := 184) hx hb dX0_takeTime_168 (by decide) ?_
    exact uX0_takeTime_184 hM G y0 y9 z0 ((-y7) - (1 : Int64)) y0 hf _ _ hR hS ls (lv_sub hl [1, 4, 0] rfl)
set_option maxHeartbeats 4000000 in
set_option maxRecDepth 100000 in
theorem uX0_takeTime_154 {p : Program} {l : Launch} {e : Env} {s : State} {m : MethodId} {args : Array Value} {below : List Frame} {meth : Method} {c : Code} {B0 : Nat} {D : va_G} {v : Nat → Nat} {r : Int32 × gH} (hM : gM p s m args meth c cX0_takeTime 12 RX0 "takeTime" (some .boolean)) (G : gH) (y0 : Nat) (y4 : Int32) (y7 : Int64) (y9 : Int64) (hf : jX0_takeTime_154 v G y0 y4 y7 y9 = some r) (H : Heap) (locs : List Loc) (hR : gRep B0 D v G s H) (hS : va_S (gA B0) s.heap H locs) (ls : Array Slot) (hl : lv_has ls 12 [(0, .ref y0), (4, .int y4), (7, .long y7), (9, .long y9)]) : W p l e ({ frames := 2, cells := 0, slots := 0, locals := 48 } : Room) s m args below meth c H locs 0 0 (MQ below (gQ B0 D v (some (.int r.1)) r.2) args s 0 0 (gA B0)) (F0 m 154 ls []) := by
  obtain ⟨hx, hb, hr, hml, hown, hts, hlocks, hnm⟩ := id hM
  unfold jX0_takeTime_154 at hf
  refine lv_iconst (v := (0 : Int32)) hx hb dX0_takeTime_154 (by decide) ?_
  exact uX0_takeTime_155 hM G y0 y4 y7 y9 (0 : Int32) hf _ _ hR hS ls (lv_sub hl [0, 1, 2, 3] rfl)
set_option maxHeartbeats 4000000 in
set_option maxRecDepth 100000 in
theorem uX0_takeTime_133 {p : Program} {l : Launch} {e : Env} {s : State} {m : MethodId} {args : Array Value} {below : List Frame} {meth : Method} {c : Code} {B0 : Nat} {D : va_G} {v : Nat → Nat} {r : Int32 × gH} (hM : gM p s m args meth c cX0_takeTime 12 RX0 "takeTime" (some .boolean)) (G : gH) (y0 : Nat) (y4 : Int32) (y7 : Int64) (y9 : Int64) (hf : jX0_takeTime_133 v G y0 y4 y7 y9 = some r) (H : Heap) (locs : List Loc) (hR : gRep B0 D v G s H) (hS : va_S (gA B0) s.heap H locs) (ls : Array Slot) (hl : lv_has ls 12 [(0, .ref y0), (4, .int y4), (7, .long y7), (9, .long y9)]) : W p l e ({ frames := 2, cells := 0, slots := 0, locals := 48 } : Room) s m args below meth c H locs 0 0 (MQ below (gQ B0 D v (some (.int r.1)) r.2) args s 0 0 (gA B0)) (F0 m 133 ls []) := by
  obtain ⟨hx, hb, hr, hml, hown, hts, hlocks, hnm⟩ := id hM
  unfold jX0_takeTime_133 at hf
  refine lv_aload_n hx hb dX0_takeTime_133 rfl (lv_at hl 0 rfl) ?_
  refine lv_iconst (v := (1 : Int32)) hx hb dX0_takeTime_134 (by decide) ?_
  refine g_zz hf (fun h2 h3 hf => ?_)
  refine g_put hx hb hts hown hR hS lpX0_35 (Or.inl rfl) h2 h3 dX0_takeTime_135 hf (fun G4 H locs hf hR hS => ?_)
  refine lv_iload hx hb dX0_takeTime_138 (lv_at hl 1 rfl) ?_
  refine g_if_eq (tgt := 154) hx hb dX0_takeTime_140 (by decide) hf (fun h5 hf => ?_) (fun h5 hf => ?_)
  · exact uX0_takeTime_154 hM G4 y0 y4 y7 y9 hf _ _ hR hS ls (lv_sub hl [0, 1, 2, 3] rfl)
  · refine lv_lload hx hb dX0_takeTime_143 (lv_at hl 3 rfl) ?_
    refine lv_lconst (v := (0 : Int64)) hx hb dX0_takeTime_145 (by decide) ?_
    refine g_lif_le (tgt := 154) hx hb dX0_takeTime_146 dX0_takeTime_147 (by decide) hf (fun h6 hf => ?_) (fun h6 hf => ?_)
    · exact uX0_takeTime_154 hM G4 y0 y4 y7 y9 hf _ _ hR hS ls (lv_sub hl [0, 1, 2, 3] rfl)
    · refine lv_iconst (v := (1 : Int32)) hx hb dX0_takeTime_150 (by decide) ?_
      refine lv_goto (tgt := 155) hx hb dX0_takeTime_151 (by decide) ?_
      exact uX0_takeTime_155 hM G4 y0 y4 y7 y9 (1 : Int32) hf _ _ hR hS ls (lv_sub hl [0, 1, 2, 3] rfl)
set_option maxHeartbeats 4000000 in
set_option maxRecDepth 100000 in
theorem wX0_takeTime_106 {p : Program} {l : Launch} {e : Env} {s : State} {m : MethodId} {args : Array Value} {below : List Frame} {meth : Method} {c : Code} {B0 : Nat} {D : va_G} {v : Nat → Nat} {r : Int32 × gH} (hM : gM p s m args meth c cX0_takeTime 12 RX0 "takeTime" (some .boolean)) : ∀ (n : Nat) (G : gH) (y0 : Nat) (y3 : Int32) (y4 : Int32) (y6 : Int32) (y7 : Int64) (y9 : Int64) (y11 : Int32), lX0_takeTime_106 v n G y0 y3 y4 y6 y7 y9 y11 = some r → ∀ (H : Heap) (locs : List Loc), gRep B0 D v G s H → va_S (gA B0) s.heap H locs → ∀ (ls : Array Slot), lv_has ls 12 [(0, .ref y0), (3, .int y3), (4, .int y4), (6, .int y6), (7, .long y7), (9, .long y9), (11, .int y11)] → W p l e ({ frames := 2, cells := 0, slots := 0, locals := 48 } : Room) s m args below meth c H locs 0 0 (MQ below (gQ B0 D v (some (.int r.1)) r.2) args s 0 0 (gA B0)) (F0 m 106 ls []) := by
  obtain ⟨hx, hb, hr, hml, hown, hts, hlocks, hnm⟩ := id hM
  intro n
  induction n with
  | zero => intro G y0 y3 y4 y6 y7 y9 y11 hf; cases hf
  | succ n ih =>
    intro G y0 y3 y4 y6 y7 y9 y11 hf H locs hR hS ls hl
    have hK : ∀ (K : gH → Nat → Int32 → Int32 → Int32 → Int64 → Int64 → Int32 → Option (Int32 × gH)), K = lX0_takeTime_106 v n → (∀ (G : gH) (q0 : Nat) (q3 : Int32) (q4 : Int32) (q6 : Int32) (q7 : Int64) (q9 : Int64) (q11 : Int32) (H : Heap) (locs : List Loc) (ls : Array Slot), K G q0 q3 q4 q6 q7 q9 q11 = some r → gRep B0 D v G s H → va_S (gA B0) s.heap H locs → lv_has ls 12 [(0, .ref q0), (3, .int q3), (4, .int q4), (6, .int q6), (7, .long q7), (9, .long q9), (11, .int q11)] → W p l e ({ frames := 2, cells := 0, slots := 0, locals := 48 } : Room) s m args below meth c H locs 0 0 (MQ below (gQ B0 D v (some (.int r.1)) r.2) args s 0 0 (gA B0)) (F0 m 106 ls [])) := fun K hk G q0 q3 q4 q6 q7 q9 q11 H locs ls h1 h2 h3 h4 => ih G q0 q3 q4 q6 q7 q9 q11 (by rw [← hk]; exact h1) H locs h2 h3 ls h4
    have hf : bX0_takeTime_106 v (lX0_takeTime_106 v n) G y0 y3 y4 y6 y7 y9 y11 = some r := hf
    have hK := hK _ rfl
    generalize lX0_takeTime_106 v n = K at hf hK
    unfold bX0_takeTime_106 at hf
    refine lv_iload hx hb dX0_takeTime_106 (lv_at hl 3 rfl) ?_
    refine lv_iload_n hx hb dX0_takeTime_108 rfl (lv_at hl 1 rfl) ?_
    refine g_icmp_ge (tgt := 133) hx hb dX0_takeTime_109 (by decide) hf (fun h1 hf => ?_) (fun h1 hf => ?_)
    · exact uX0_takeTime_133 hM G y0 y4 y7 y9 hf _ _ hR hS ls (lv_sub hl [0, 2, 4, 5] rfl)
    · refine lv_iload hx hb dX0_takeTime_112 (lv_at hl 6 rfl) ?_
      refine lv_bipush (v := (9 : Int32)) hx hb dX0_takeTime_114 (by decide) ?_
      refine g_icmp_ge (tgt := 133) hx hb dX0_takeTime_116 (by decide) hf (fun h2 hf => ?_) (fun h2 hf => ?_)
      · exact uX0_takeTime_133 hM G y0 y4 y7 y9 hf _ _ hR hS ls (lv_sub hl [0, 2, 4, 5] rfl)
      · refine lv_lload hx hb dX0_takeTime_119 (lv_at hl 5 rfl) ?_
        refine lv_ldc2 (v := (10 : Int64)) hx hb hown (hts _ kcX0_64) dX0_takeTime_121 ?_
        refine lv_lmul hx hb dX0_takeTime_124 ?_
        refine g_nmJ hf (fun x3 hf => ?_)
        refine lv_lstore (lv' := [(9, .long x3), (0, .ref y0), (3, .int y3), (4, .int y4), (6, .int y6), (7, .long y7), (11, .int y11)]) hx hb dX0_takeTime_125 hl (by decide) rfl (fun ls hl => ?_)
        refine g_iinc (k := 6) (n' := (1 : Int32)) (lv2 := [(9, .long x3), (0, .ref y0), (3, .int y3), (4, .int y4), (6, .int y6), (7, .long y7)]) hx hb dX0_takeTime_127 hl rfl (by decide) (by decide) rfl hf (fun x4 ls hf hl => ?_)
        refine lv_goto (tgt := 106) hx hb dX0_takeTime_130 (by decide) ?_
        exact hK G y0 y3 y4 y6 y7 x3 x4 _ _ ls hf hR hS (lv_sub hl [2, 3, 4, 5, 6, 1, 0] rfl)
set_option maxHeartbeats 4000000 in
set_option maxRecDepth 100000 in
theorem uX0_takeTime_80 {p : Program} {l : Launch} {e : Env} {s : State} {m : MethodId} {args : Array Value} {below : List Frame} {meth : Method} {c : Code} {B0 : Nat} {D : va_G} {v : Nat → Nat} {r : Int32 × gH} (hM : gM p s m args meth c cX0_takeTime 12 RX0 "takeTime" (some .boolean)) (G : gH) (y0 : Nat) (y3 : Int32) (y4 : Int32) (y6 : Int32) (y7 : Int64) (z0 : Int64) (hf : jX0_takeTime_80 v G y0 y3 y4 y6 y7 z0 = some r) (H : Heap) (locs : List Loc) (hR : gRep B0 D v G s H) (hS : va_S (gA B0) s.heap H locs) (ls : Array Slot) (hl : lv_has ls 12 [(0, .ref y0), (3, .int y3), (4, .int y4), (6, .int y6), (7, .long y7)]) : W p l e ({ frames := 2, cells := 0, slots := 0, locals := 48 } : Room) s m args below meth c H locs 0 0 (MQ below (gQ B0 D v (some (.int r.1)) r.2) args s 0 0 (gA B0)) (F0 m 80 ls [.long z0]) := by
  obtain ⟨hx, hb, hr, hml, hown, hts, hlocks, hnm⟩ := id hM
  unfold jX0_takeTime_80 at hf
  refine lv_lstore (lv' := [(9, .long z0), (0, .ref y0), (3, .int y3), (4, .int y4), (6, .int y6), (7, .long y7)]) hx hb dX0_takeTime_80 hl (by decide) rfl (fun ls hl => ?_)
  refine lv_lload hx hb dX0_takeTime_82 (lv_at hl 5 rfl) ?_
  refine lv_lconst (v := (0 : Int64)) hx hb dX0_takeTime_84 (by decide) ?_
  refine g_lif_lt (tgt := 96) hx hb dX0_takeTime_85 dX0_takeTime_86 (by decide) hf (fun h1 hf => ?_) (fun h1 hf => ?_)
  · refine lv_iconst (v := (0 : Int32)) hx hb dX0_takeTime_96 (by decide) ?_
    refine g_zz hf (fun h2 _ hf => ?_)
    have hf := Option.some.inj hf
    subst hf
    exact g_zret hx hb hr hlocks hR hS dX0_takeTime_97 h2 rfl rfl
  · refine lv_lload hx hb dX0_takeTime_89 (lv_at hl 0 rfl) ?_
    refine lv_lconst (v := (0 : Int64)) hx hb dX0_takeTime_91 (by decide) ?_
    refine g_lif_ge (tgt := 98) hx hb dX0_takeTime_92 dX0_takeTime_93 (by decide) hf (fun h3 hf => ?_) (fun h3 hf => ?_)
    · refine lv_iload_n hx hb dX0_takeTime_98 rfl (lv_at hl 2 rfl) ?_
      refine lv_iload hx hb dX0_takeTime_99 (lv_at hl 4 rfl) ?_
      refine lv_isub hx hb dX0_takeTime_101 ?_
      refine lv_iconst (v := (1 : Int32)) hx hb dX0_takeTime_102 (by decide) ?_
      refine lv_isub hx hb dX0_takeTime_103 ?_
      refine g_nmI hf (fun x4 hf => ?_)
      refine lv_istore (lv' := [(11, .int x4), (9, .long z0), (0, .ref y0), (3, .int y3), (4, .int y4), (6, .int y6), (7, .long y7)]) hx hb dX0_takeTime_104 hl (by decide) rfl (fun ls hl => ?_)
      exact wX0_takeTime_106 hM gFu G y0 y3 y4 y6 y7 z0 x4 hf _ _ hR hS ls (lv_sub hl [2, 3, 4, 5, 6, 1, 0] rfl)
    · refine lv_iconst (v := (0 : Int32)) hx hb dX0_takeTime_96 (by decide) ?_
      refine g_zz hf (fun h5 _ hf => ?_)
      have hf := Option.some.inj hf
      subst hf
      exact g_zret hx hb hr hlocks hR hS dX0_takeTime_97 h5 rfl rfl
set_option maxHeartbeats 4000000 in
set_option maxRecDepth 100000 in
theorem uX0_takeTime_34 {p : Program} {l : Launch} {e : Env} {s : State} {m : MethodId} {args : Array Value} {below : List Frame} {meth : Method} {c : Code} {B0 : Nat} {D : va_G} {v : Nat → Nat} {r : Int32 × gH} (hM : gM p s m args meth c cX0_takeTime 12 RX0 "takeTime" (some .boolean)) (G : gH) (y0 : Nat) (y1 : Nat) (y3 : Int32) (y4 : Int32) (z0 : Int32) (hf : jX0_takeTime_34 v G y0 y1 y3 y4 z0 = some r) (H : Heap) (locs : List Loc) (hR : gRep B0 D v G s H) (hS : va_S (gA B0) s.heap H locs) (ls : Array Slot) (hl : lv_has ls 12 [(0, .ref y0), (1, .ref y1), (3, .int y3), (4, .int y4)]) : W p l e ({ frames := 2, cells := 0, slots := 0, locals := 48 } : Room) s m args below meth c H locs 0 0 (MQ below (gQ B0 D v (some (.int r.1)) r.2) args s 0 0 (gA B0)) (F0 m 34 ls [.int z0]) := by
  obtain ⟨hx, hb, hr, hml, hown, hts, hlocks, hnm⟩ := id hM
  unfold jX0_takeTime_34 at hf
  refine lv_istore (lv' := [(5, .int z0), (0, .ref y0), (1, .ref y1), (3, .int y3), (4, .int y4)]) hx hb dX0_takeTime_34 hl (by decide) rfl (fun ls hl => ?_)
  refine lv_aload_n hx hb dX0_takeTime_36 rfl (lv_at hl 2 rfl) ?_
  refine lv_bipush (v := (46 : Int32)) hx hb dX0_takeTime_37 (by decide) ?_
  refine lv_iload hx hb dX0_takeTime_39 (lv_at hl 0 rfl) ?_
  refine lv_iload_n hx hb dX0_takeTime_41 rfl (lv_at hl 3 rfl) ?_
  obtain ⟨x1, h2, hf⟩ := gb hf
  refine g_callV0 (st1 := [.int x1]) [] hx hb hml hown hts hR hS kvX0_56 (mX7_find l h2) (oX7_find h2) ⟨rfl, rfl, Nat.le_of_ble_eq_true rfl, Nat.le_of_ble_eq_true rfl⟩ hl.1 rfl (Nat.le_of_ble_eq_true rfl) dX0_takeTime_42 ⟨Nat.zero_le _, Nat.zero_le _⟩ rfl rfl (fun H locs hR hS => ?_)
  refine lv_istore (lv' := [(6, .int x1), (5, .int z0), (0, .ref y0), (1, .ref y1), (3, .int y3), (4, .int y4)]) hx hb dX0_takeTime_45 hl (by decide) rfl (fun ls hl => ?_)
  refine lv_aload_n hx hb dX0_takeTime_47 rfl (lv_at hl 3 rfl) ?_
  refine lv_iload hx hb dX0_takeTime_48 (lv_at hl 1 rfl) ?_
  refine lv_iload hx hb dX0_takeTime_50 (lv_at hl 0 rfl) ?_
  refine lv_bipush (v := (16 : Int32)) hx hb dX0_takeTime_52 (by decide) ?_
  obtain ⟨x3, h4, hf⟩ := gb hf
  refine g_callV0 (st1 := [.long x3]) [] hx hb hml hown hts hR hS kvX0_60 (mX7_decimal l h4) (oX7_decimal h4) ⟨rfl, rfl, Nat.le_of_ble_eq_true rfl, Nat.le_of_ble_eq_true rfl⟩ hl.1 rfl (Nat.le_of_ble_eq_true rfl) dX0_takeTime_54 ⟨Nat.zero_le _, Nat.zero_le _⟩ rfl rfl (fun H locs hR hS => ?_)
  refine lv_lstore (lv' := [(7, .long x3), (6, .int x1), (5, .int z0), (0, .ref y0), (1, .ref y1), (3, .int y3), (4, .int y4)]) hx hb dX0_takeTime_57 hl (by decide) rfl (fun ls hl => ?_)
  refine lv_iload hx hb dX0_takeTime_59 (lv_at hl 1 rfl) ?_
  refine lv_iload_n hx hb dX0_takeTime_61 rfl (lv_at hl 5 rfl) ?_
  refine g_icmp_ge (tgt := 79) hx hb dX0_takeTime_62 (by decide) hf (fun h5 hf => ?_) (fun h5 hf => ?_)
  · refine lv_lconst (v := (0 : Int64)) hx hb dX0_takeTime_79 (by decide) ?_
    exact uX0_takeTime_80 hM G y0 y3 y4 x1 x3 (0 : Int64) hf _ _ hR hS ls (lv_sub hl [3, 5, 6, 1, 0] rfl)
  · refine lv_aload_n hx hb dX0_takeTime_65 rfl (lv_at hl 4 rfl) ?_
    refine lv_iload hx hb dX0_takeTime_66 (lv_at hl 1 rfl) ?_
    refine lv_iconst (v := (1 : Int32)) hx hb dX0_takeTime_68 (by decide) ?_
    refine lv_iadd hx hb dX0_takeTime_69 ?_
    refine lv_iload_n hx hb dX0_takeTime_70 rfl (lv_at hl 5 rfl) ?_
    refine lv_bipush (v := (9 : Int32)) hx hb dX0_takeTime_71 (by decide) ?_
    obtain ⟨x6, h7, hf⟩ := gb hf
    refine g_callV0 (st1 := [.long x6]) [] hx hb hml hown hts hR hS kvX0_60 (mX7_decimal l h7) (oX7_decimal h7) ⟨rfl, rfl, Nat.le_of_ble_eq_true rfl, Nat.le_of_ble_eq_true rfl⟩ hl.1 rfl (Nat.le_of_ble_eq_true rfl) dX0_takeTime_73 ⟨Nat.zero_le _, Nat.zero_le _⟩ rfl rfl (fun H locs hR hS => ?_)
    refine lv_goto (tgt := 80) hx hb dX0_takeTime_76 (by decide) ?_
    exact uX0_takeTime_80 hM G y0 y3 y4 x1 x3 x6 hf _ _ hR hS ls (lv_sub hl [3, 5, 6, 1, 0] rfl)
set_option maxHeartbeats 4000000 in
set_option maxRecDepth 100000 in
theorem uX0_takeTime_20 {p : Program} {l : Launch} {e : Env} {s : State} {m : MethodId} {args : Array Value} {below : List Frame} {meth : Method} {c : Code} {B0 : Nat} {D : va_G} {v : Nat → Nat} {r : Int32 × gH} (hM : gM p s m args meth c cX0_takeTime 12 RX0 "takeTime" (some .boolean)) (G : gH) (y0 : Nat) (y1 : Nat) (y2 : Int32) (y3 : Int32) (z0 : Int32) (hf : jX0_takeTime_20 v G y0 y1 y2 y3 z0 = some r) (H : Heap) (locs : List Loc) (hR : gRep B0 D v G s H) (hS : va_S (gA B0) s.heap H locs) (ls : Array Slot) (hl : lv_has ls 12 [(0, .ref y0), (1, .ref y1), (2, .int y2), (3, .int y3)]) : W p l e ({ frames := 2, cells := 0, slots := 0, locals := 48 } : Room) s m args below meth c H locs 0 0 (MQ below (gQ B0 D v (some (.int r.1)) r.2) args s 0 0 (gA B0)) (F0 m 20 ls [.int z0]) := by
  obtain ⟨hx, hb, hr, hml, hown, hts, hlocks, hnm⟩ := id hM
  unfold jX0_takeTime_20 at hf
  refine lv_istore (lv' := [(4, .int z0), (0, .ref y0), (1, .ref y1), (2, .int y2), (3, .int y3)]) hx hb dX0_takeTime_20 hl (by decide) rfl (fun ls hl => ?_)
  refine lv_iload hx hb dX0_takeTime_22 (lv_at hl 0 rfl) ?_
  refine g_if_eq (tgt := 33) hx hb dX0_takeTime_24 (by decide) hf (fun h1 hf => ?_) (fun h1 hf => ?_)
  · refine lv_iload_n hx hb dX0_takeTime_33 rfl (lv_at hl 3 rfl) ?_
    exact uX0_takeTime_34 hM G y0 y1 y3 z0 y2 hf _ _ hR hS ls (lv_sub hl [1, 2, 4, 0] rfl)
  · refine lv_iload_n hx hb dX0_takeTime_27 rfl (lv_at hl 3 rfl) ?_
    refine lv_iconst (v := (1 : Int32)) hx hb dX0_takeTime_28 (by decide) ?_
    refine lv_iadd hx hb dX0_takeTime_29 ?_
    refine lv_goto (tgt := 34) hx hb dX0_takeTime_30 (by decide) ?_
    exact uX0_takeTime_34 hM G y0 y1 y3 z0 (y2 + (1 : Int32)) hf _ _ hR hS ls (lv_sub hl [1, 2, 4, 0] rfl)
set_option maxHeartbeats 4000000 in
set_option maxRecDepth 100000 in
theorem uX0_takeTime_19 {p : Program} {l : Launch} {e : Env} {s : State} {m : MethodId} {args : Array Value} {below : List Frame} {meth : Method} {c : Code} {B0 : Nat} {D : va_G} {v : Nat → Nat} {r : Int32 × gH} (hM : gM p s m args meth c cX0_takeTime 12 RX0 "takeTime" (some .boolean)) (G : gH) (y0 : Nat) (y1 : Nat) (y2 : Int32) (y3 : Int32) (hf : jX0_takeTime_19 v G y0 y1 y2 y3 = some r) (H : Heap) (locs : List Loc) (hR : gRep B0 D v G s H) (hS : va_S (gA B0) s.heap H locs) (ls : Array Slot) (hl : lv_has ls 12 [(0, .ref y0), (1, .ref y1), (2, .int y2), (3, .int y3)]) : W p l e ({ frames := 2, cells := 0, slots := 0, locals := 48 } : Room) s m args below meth c H locs 0 0 (MQ below (gQ B0 D v (some (.int r.1)) r.2) args s 0 0 (gA B0)) (F0 m 19 ls []) := by
  obtain ⟨hx, hb, hr, hml, hown, hts, hlocks, hnm⟩ := id hM
  unfold jX0_takeTime_19 at hf
  refine lv_iconst (v := (0 : Int32)) hx hb dX0_takeTime_19 (by decide) ?_
  exact uX0_takeTime_20 hM G y0 y1 y2 y3 (0 : Int32) hf _ _ hR hS ls (lv_sub hl [0, 1, 2, 3] rfl)
theorem oX0_takeTime {v : Nat → Nat} {G : gH} {a0 : Nat} {a1 : Nat} {a2 : Int32} {a3 : Int32} {r : Int32 × gH} (h : fX0_takeTime v G a0 a1 a2 a3 = some r) : gOb G a0 0 = some () := by
  unfold fX0_takeTime at h
  obtain ⟨u, hu, -⟩ := gb h
  exact hu
set_option maxHeartbeats 4000000 in
set_option maxRecDepth 100000 in
theorem mX0_takeTime (l : Launch) {B0 : Nat} {D : va_G} {v : Nat → Nat} {G : gH} {a0 : Nat} {a1 : Nat} {a2 : Int32} {a3 : Int32} {r : Int32 × gH} (hf : fX0_takeTime v G a0 a1 a2 a3 = some r) : Met l yX0_takeTime (.code yX0_takeTime cX0_takeTime 12 (some .boolean) :: gW) ({ frames := 2, cells := 0, slots := 0, locals := 48 } : Room) (gPre B0 D v [.ref a0, .ref a1, .int a2, .int a3] G) (gQ B0 D v (some (.int r.1)) r.2) 0 0 (gA B0) := by
  refine g_met (lv := [(0, .ref a0), (1, .ref a1), (2, .int a2), (3, .int a3)]) (by decide) (Nat.le_of_ble_eq_true rfl) rfl ?_
  intro p e s m below meth c hM hR ls hl
  obtain ⟨hx, hb, hr, hml, hown, hts, hlocks, hnm⟩ := id hM
  have hS : va_S (gA B0) s.heap s.heap [] := va_S.rf
  unfold fX0_takeTime at hf
  obtain ⟨-, -, hf⟩ := gb hf
  refine lv_aload_n hx hb dX0_takeTime_0 rfl (lv_at hl 1 rfl) ?_
  refine lv_iload_n hx hb dX0_takeTime_1 rfl (lv_at hl 2 rfl) ?_
  obtain ⟨x1, h2, hf⟩ := gb hf
  refine g_callV0 (st1 := [.int x1]) [] hx hb hml hown hts hR hS kvX0_52 (mX7_at l h2) (oX7_at h2) ⟨rfl, rfl, Nat.le_of_ble_eq_true rfl, Nat.le_of_ble_eq_true rfl⟩ hl.1 rfl (Nat.le_of_ble_eq_true rfl) dX0_takeTime_2 ⟨Nat.zero_le _, Nat.zero_le _⟩ rfl rfl (fun H locs hR hS => ?_)
  refine lv_bipush (v := (45 : Int32)) hx hb dX0_takeTime_5 (by decide) ?_
  refine g_icmp_ne (tgt := 19) hx hb dX0_takeTime_7 (by decide) hf (fun h3 hf => ?_) (fun h3 hf => ?_)
  · exact uX0_takeTime_19 hM G a0 a1 a2 a3 hf _ _ hR hS ls (lv_sub hl [0, 1, 2, 3] rfl)
  · refine lv_iload_n hx hb dX0_takeTime_10 rfl (lv_at hl 2 rfl) ?_
    refine lv_iload_n hx hb dX0_takeTime_11 rfl (lv_at hl 3 rfl) ?_
    refine g_icmp_ge (tgt := 19) hx hb dX0_takeTime_12 (by decide) hf (fun h4 hf => ?_) (fun h4 hf => ?_)
    · exact uX0_takeTime_19 hM G a0 a1 a2 a3 hf _ _ hR hS ls (lv_sub hl [0, 1, 2, 3] rfl)
    · refine lv_iconst (v := (1 : Int32)) hx hb dX0_takeTime_15 (by decide) ?_
      refine lv_goto (tgt := 20) hx hb dX0_takeTime_16 (by decide) ?_
      exact uX0_takeTime_20 hM G a0 a1 a2 a3 (1 : Int32) hf _ _ hR hS ls (lv_sub hl [0, 1, 2, 3] rfl)
theorem oX1_at {v : Nat → Nat} {G : gH} {a0 : Nat} {a1 : Int32} {r : Option Nat} (h : fX1_at v G a0 a1 = some r) : gOb G a0 1 = some () := by
  unfold fX1_at at h
  obtain ⟨u, hu, -⟩ := gb h
  exact hu
set_option maxHeartbeats 4000000 in
set_option maxRecDepth 100000 in
theorem mX1_at (l : Launch) {B0 : Nat} {D : va_G} {v : Nat → Nat} {G : gH} {a0 : Nat} {a1 : Int32} {r : Option Nat} (hf : fX1_at v G a0 a1 = some r) : Met l yX1_at (.code yX1_at cX1_at 2 (some (.object "TarForms$Found")) :: gW) ({ frames := 0, cells := 0, slots := 0, locals := 0 } : Room) (gPre B0 D v [.ref a0, .int a1] G) (gQ B0 D v (some (va_rf r)) G) 0 0 (gA B0) := by
  refine g_met (lv := [(0, .ref a0), (1, .int a1)]) (by decide) (Nat.le_of_ble_eq_true rfl) rfl ?_
  intro p e s m below meth c hM hR ls hl
  obtain ⟨hx, hb, hr, hml, hown, hts, hlocks, hnm⟩ := id hM
  have hS : va_S (gA B0) s.heap s.heap [] := va_S.rf
  unfold fX1_at at hf
  obtain ⟨-, -, hf⟩ := gb hf
  refine lv_iload_n hx hb dX1_at_0 rfl (lv_at hl 1 rfl) ?_
  refine g_if_lt (tgt := 30) hx hb dX1_at_1 (by decide) hf (fun h1 hf => ?_) (fun h1 hf => ?_)
  · refine lv_null hx hb dX1_at_30 ?_
    have hf := Option.some.inj hf
    subst hf
    exact g_aret hx hb hr (Or.inl ⟨_, rfl⟩) hlocks hR hS dX1_at_31 (Or.inl rfl) rfl rfl
  · refine lv_iload_n hx hb dX1_at_4 rfl (lv_at hl 1 rfl) ?_
    refine lv_aload_n hx hb dX1_at_5 rfl (lv_at hl 0 rfl) ?_
    refine g_getI hx hb hts hown hR lkX1_34 dX1_at_6 hf (fun x2 hf => ?_)
    refine g_icmp_ge (tgt := 30) hx hb dX1_at_9 (by decide) hf (fun h3 hf => ?_) (fun h3 hf => ?_)
    · refine lv_null hx hb dX1_at_30 ?_
      have hf := Option.some.inj hf
      subst hf
      exact g_aret hx hb hr (Or.inl ⟨_, rfl⟩) hlocks hR hS dX1_at_31 (Or.inl rfl) rfl rfl
    · refine lv_iload_n hx hb dX1_at_12 rfl (lv_at hl 1 rfl) ?_
      refine lv_aload_n hx hb dX1_at_13 rfl (lv_at hl 0 rfl) ?_
      refine g_getR hx hb hts hown hR lkX1_11 dX1_at_14 hf (fun x4 hf => ?_)
      refine g_lenW hx hb hR dX1_at_17 hf (fun x5 hf => ?_)
      refine g_icmp_ge (tgt := 30) hx hb dX1_at_18 (by decide) hf (fun h6 hf => ?_) (fun h6 hf => ?_)
      · refine lv_null hx hb dX1_at_30 ?_
        have hf := Option.some.inj hf
        subst hf
        exact g_aret hx hb hr (Or.inl ⟨_, rfl⟩) hlocks hR hS dX1_at_31 (Or.inl rfl) rfl rfl
      · refine lv_aload_n hx hb dX1_at_21 rfl (lv_at hl 0 rfl) ?_
        refine g_getR hx hb hts hown hR lkX1_11 dX1_at_22 hf (fun x7 hf => ?_)
        refine lv_iload_n hx hb dX1_at_25 rfl (lv_at hl 1 rfl) ?_
        refine g_aald hx hb hR dX1_at_26 hf (fun x8 hf => ?_)
        refine lv_goto (tgt := 31) hx hb dX1_at_27 (by decide) ?_
        have hf := Option.some.inj hf
        subst hf
        exact g_aret hx hb hr (Or.inl ⟨_, rfl⟩) hlocks hR hS dX1_at_31 (Or.inr ⟨_, rfl⟩) rfl rfl
theorem oX4_forget {v : Nat → Nat} {G : gH} {a0 : Nat} {r : gH} (h : fX4_forget v G a0 = some r) : gOb G a0 4 = some () := by
  unfold fX4_forget at h
  obtain ⟨u, hu, -⟩ := gb h
  exact hu
set_option maxHeartbeats 4000000 in
set_option maxRecDepth 100000 in
theorem mX4_forget (l : Launch) {B0 : Nat} {D : va_G} {v : Nat → Nat} {G : gH} {a0 : Nat} {r : gH} (hf : fX4_forget v G a0 = some r) : Met l yX4_forget (.code yX4_forget cX4_forget 1 none :: gW) ({ frames := 0, cells := 0, slots := 0, locals := 0 } : Room) (gPre B0 D v [.ref a0] G) (gQ B0 D v none r) 0 0 (gA B0) := by
  refine g_met (lv := [(0, .ref a0)]) (by decide) (Nat.le_of_ble_eq_true rfl) rfl ?_
  intro p e s m below meth c hM hR ls hl
  obtain ⟨hx, hb, hr, hml, hown, hts, hlocks, hnm⟩ := id hM
  have hS : va_S (gA B0) s.heap s.heap [] := va_S.rf
  unfold fX4_forget at hf
  obtain ⟨-, -, hf⟩ := gb hf
  refine lv_aload_n hx hb dX4_forget_0 rfl (lv_at hl 0 rfl) ?_
  refine lv_iconst (v := (0 : Int32)) hx hb dX4_forget_1 (by decide) ?_
  refine g_put hx hb hts hown hR hS lpX4_7 (Or.inl rfl) rfl rfl dX4_forget_2 hf (fun G1 H locs hf hR hS => ?_)
  refine lv_aload_n hx hb dX4_forget_5 rfl (lv_at hl 0 rfl) ?_
  refine lv_iconst (v := (0 : Int32)) hx hb dX4_forget_6 (by decide) ?_
  refine g_put hx hb hts hown hR hS lpX4_13 (Or.inl rfl) rfl rfl dX4_forget_7 hf (fun G2 H locs hf hR hS => ?_)
  have hf := Option.some.inj hf
  subst hf
  exact g_vret hx hb hr hlocks hR hS dX4_forget_10 rfl
theorem oX4_end {v : Nat → Nat} {G : gH} {a0 : Nat} {a1 : Int32} {a2 : Int32} {r : Int32 × gH} (h : fX4_end v G a0 a1 a2 = some r) : gOb G a0 4 = some () := by
  unfold fX4_end at h
  obtain ⟨u, hu, -⟩ := gb h
  exact hu
set_option maxHeartbeats 4000000 in
set_option maxRecDepth 100000 in
theorem mX4_end (l : Launch) {B0 : Nat} {D : va_G} {v : Nat → Nat} {G : gH} {a0 : Nat} {a1 : Int32} {a2 : Int32} {r : Int32 × gH} (hf : fX4_end v G a0 a1 a2 = some r) : Met l yX4_end (.code yX4_end cX4_end 3 (some .int) :: gW) ({ frames := 0, cells := 0, slots := 0, locals := 0 } : Room) (gPre B0 D v [.ref a0, .int a1, .int a2] G) (gQ B0 D v (some (.int r.1)) r.2) 0 0 (gA B0) := by
  refine g_met (lv := [(0, .ref a0), (1, .int a1), (2, .int a2)]) (by decide) (Nat.le_of_ble_eq_true rfl) rfl ?_
  intro p e s m below meth c hM hR ls hl
  obtain ⟨hx, hb, hr, hml, hown, hts, hlocks, hnm⟩ := id hM
  have hS : va_S (gA B0) s.heap s.heap [] := va_S.rf
  unfold fX4_end at hf
  obtain ⟨-, -, hf⟩ := gb hf
  refine lv_aload_n hx hb dX4_end_0 rfl (lv_at hl 0 rfl) ?_
  refine lv_iload_n hx hb dX4_end_1 rfl (lv_at hl 1 rfl) ?_
  refine g_put hx hb hts hown hR hS lpX4_7 (Or.inl rfl) rfl rfl dX4_end_2 hf (fun G1 H locs hf hR hS => ?_)
  refine lv_aload_n hx hb dX4_end_5 rfl (lv_at hl 0 rfl) ?_
  refine lv_iload_n hx hb dX4_end_6 rfl (lv_at hl 2 rfl) ?_
  refine g_put hx hb hts hown hR hS lpX4_13 (Or.inl rfl) rfl rfl dX4_end_7 hf (fun G2 H locs hf hR hS => ?_)
  refine lv_iconst (v := (-1 : Int32)) hx hb dX4_end_10 (by decide) ?_
  have hf := Option.some.inj hf
  subst hf
  exact g_iret hx hb hr hlocks hR hS dX4_end_11 rfl rfl
set_option maxHeartbeats 4000000 in
set_option maxRecDepth 100000 in
theorem wX1_isBlank_19 {p : Program} {l : Launch} {e : Env} {s : State} {m : MethodId} {args : Array Value} {below : List Frame} {meth : Method} {c : Code} {B0 : Nat} {D : va_G} {v : Nat → Nat} {r : Int32} {G : gH} (hM : gM p s m args meth c cX1_isBlank 3 RX1 "isBlank" (some .boolean)) : ∀ (n : Nat) (y0 : Nat) (y1 : Int32) (y2 : Int32), lX1_isBlank_19 v G n y0 y1 y2 = some r → ∀ (H : Heap) (locs : List Loc), gRep B0 D v G s H → va_S (gA B0) s.heap H locs → ∀ (ls : Array Slot), lv_has ls 3 [(0, .ref y0), (1, .int y1), (2, .int y2)] → W p l e ({ frames := 1, cells := 0, slots := 0, locals := 21 } : Room) s m args below meth c H locs 0 0 (MQ below (gQ B0 D v (some (.int r)) G) args s 0 0 (gA B0)) (F0 m 19 ls []) := by
  obtain ⟨hx, hb, hr, hml, hown, hts, hlocks, hnm⟩ := id hM
  intro n
  induction n with
  | zero => intro y0 y1 y2 hf; cases hf
  | succ n ih =>
    intro y0 y1 y2 hf H locs hR hS ls hl
    have hK : ∀ (K : Nat → Int32 → Int32 → Option Int32), K = lX1_isBlank_19 v G n → (∀ (q0 : Nat) (q1 : Int32) (q2 : Int32) (H : Heap) (locs : List Loc) (ls : Array Slot), K q0 q1 q2 = some r → gRep B0 D v G s H → va_S (gA B0) s.heap H locs → lv_has ls 3 [(0, .ref q0), (1, .int q1), (2, .int q2)] → W p l e ({ frames := 1, cells := 0, slots := 0, locals := 21 } : Room) s m args below meth c H locs 0 0 (MQ below (gQ B0 D v (some (.int r)) G) args s 0 0 (gA B0)) (F0 m 19 ls [])) := fun K hk q0 q1 q2 H locs ls h1 h2 h3 h4 => ih q0 q1 q2 (by rw [← hk]; exact h1) H locs h2 h3 ls h4
    have hf : bX1_isBlank_19 v G (lX1_isBlank_19 v G n) y0 y1 y2 = some r := hf
    have hK := hK _ rfl
    generalize lX1_isBlank_19 v G n = K at hf hK
    unfold bX1_isBlank_19 at hf
    refine lv_iload_n hx hb dX1_isBlank_19 rfl (lv_at hl 2 rfl) ?_
    refine lv_iload_n hx hb dX1_isBlank_20 rfl (lv_at hl 1 rfl) ?_
    refine lv_sipush (v := (512 : Int32)) hx hb dX1_isBlank_21 (by decide) ?_
    refine lv_iadd hx hb dX1_isBlank_24 ?_
    refine g_icmp_ge (tgt := 47) hx hb dX1_isBlank_25 (by decide) hf (fun h1 hf => ?_) (fun h1 hf => ?_)
    · refine lv_iconst (v := (1 : Int32)) hx hb dX1_isBlank_47 (by decide) ?_
      refine g_zz hf (fun h2 _ hf => ?_)
      have hf := Option.some.inj hf
      subst hf
      exact g_zret hx hb hr hlocks hR hS dX1_isBlank_48 h2 rfl rfl
    · refine lv_aload_n hx hb dX1_isBlank_28 rfl (lv_at hl 0 rfl) ?_
      refine g_getR hx hb hts hown hR lkX1_41 dX1_isBlank_29 hf (fun x3 hf => ?_)
      refine lv_iload_n hx hb dX1_isBlank_32 rfl (lv_at hl 2 rfl) ?_
      obtain ⟨x4, h5, hf⟩ := gb hf
      refine g_callV0 (st1 := [.int x4]) [] hx hb hml hown hts hR hS kvX1_94 (mX7_at l h5) (oX7_at h5) ⟨rfl, rfl, Nat.le_of_ble_eq_true rfl, Nat.le_of_ble_eq_true rfl⟩ hl.1 rfl (Nat.le_of_ble_eq_true rfl) dX1_isBlank_33 ⟨Nat.zero_le _, Nat.zero_le _⟩ rfl rfl (fun H locs hR hS => ?_)
      refine g_if_eq (tgt := 41) hx hb dX1_isBlank_36 (by decide) hf (fun h6 hf => ?_) (fun h6 hf => ?_)
      · refine g_iinc (k := 2) (n' := (1 : Int32)) (lv2 := [(0, .ref y0), (1, .int y1)]) hx hb dX1_isBlank_41 hl rfl (by decide) (by decide) rfl hf (fun x7 ls hf hl => ?_)
        refine lv_goto (tgt := 19) hx hb dX1_isBlank_44 (by decide) ?_
        exact hK y0 y1 x7 _ _ ls hf hR hS (lv_sub hl [1, 2, 0] rfl)
      · refine lv_iconst (v := (0 : Int32)) hx hb dX1_isBlank_39 (by decide) ?_
        refine g_zz hf (fun h8 _ hf => ?_)
        have hf := Option.some.inj hf
        subst hf
        exact g_zret hx hb hr hlocks hR hS dX1_isBlank_40 h8 rfl rfl
theorem oX1_isBlank {v : Nat → Nat} {G : gH} {a0 : Nat} {a1 : Int32} {r : Int32} (h : fX1_isBlank v G a0 a1 = some r) : gOb G a0 1 = some () := by
  unfold fX1_isBlank at h
  obtain ⟨u, hu, -⟩ := gb h
  exact hu
set_option maxHeartbeats 4000000 in
set_option maxRecDepth 100000 in
theorem mX1_isBlank (l : Launch) {B0 : Nat} {D : va_G} {v : Nat → Nat} {G : gH} {a0 : Nat} {a1 : Int32} {r : Int32} (hf : fX1_isBlank v G a0 a1 = some r) : Met l yX1_isBlank (.code yX1_isBlank cX1_isBlank 3 (some .boolean) :: gW) ({ frames := 1, cells := 0, slots := 0, locals := 21 } : Room) (gPre B0 D v [.ref a0, .int a1] G) (gQ B0 D v (some (.int r)) G) 0 0 (gA B0) := by
  refine g_met (lv := [(0, .ref a0), (1, .int a1)]) (by decide) (Nat.le_of_ble_eq_true rfl) rfl ?_
  intro p e s m below meth c hM hR ls hl
  obtain ⟨hx, hb, hr, hml, hown, hts, hlocks, hnm⟩ := id hM
  have hS : va_S (gA B0) s.heap s.heap [] := va_S.rf
  unfold fX1_isBlank at hf
  obtain ⟨-, -, hf⟩ := gb hf
  refine lv_aload_n hx hb dX1_isBlank_0 rfl (lv_at hl 0 rfl) ?_
  refine g_getR hx hb hts hown hR lkX1_41 dX1_isBlank_1 hf (fun x1 hf => ?_)
  obtain ⟨x2, h3, hf⟩ := gb hf
  refine g_callV0 (st1 := [.int x2]) [] hx hb hml hown hts hR hS kvX1_68 (mX7_count l h3) (oX7_count h3) ⟨rfl, rfl, Nat.le_of_ble_eq_true rfl, Nat.le_of_ble_eq_true rfl⟩ hl.1 rfl (Nat.le_of_ble_eq_true rfl) dX1_isBlank_4 ⟨Nat.zero_le _, Nat.zero_le _⟩ rfl rfl (fun H locs hR hS => ?_)
  refine lv_iload_n hx hb dX1_isBlank_7 rfl (lv_at hl 1 rfl) ?_
  refine lv_isub hx hb dX1_isBlank_8 ?_
  refine lv_sipush (v := (512 : Int32)) hx hb dX1_isBlank_9 (by decide) ?_
  refine g_icmp_ge (tgt := 17) hx hb dX1_isBlank_12 (by decide) hf (fun h4 hf => ?_) (fun h4 hf => ?_)
  · refine lv_iload_n hx hb dX1_isBlank_17 rfl (lv_at hl 1 rfl) ?_
    refine lv_istore_n (lv' := [(2, .int a1), (0, .ref a0), (1, .int a1)]) hx hb dX1_isBlank_18 rfl hl (by decide) rfl (fun ls hl => ?_)
    exact wX1_isBlank_19 hM gFu a0 a1 a1 hf _ _ hR hS ls (lv_sub hl [1, 2, 0] rfl)
  · refine lv_iconst (v := (0 : Int32)) hx hb dX1_isBlank_15 (by decide) ?_
    refine g_zz hf (fun h5 _ hf => ?_)
    have hf := Option.some.inj hf
    subst hf
    exact g_zret hx hb hr hlocks hR hS dX1_isBlank_16 h5 rfl rfl
set_option maxHeartbeats 4000000 in
set_option maxRecDepth 100000 in
theorem uX1_passEnd_97 {p : Program} {l : Launch} {e : Env} {s : State} {m : MethodId} {args : Array Value} {below : List Frame} {meth : Method} {c : Code} {B0 : Nat} {D : va_G} {v : Nat → Nat} {r : Int32 × gH} (hM : gM p s m args meth c cX1_passEnd 4 RX1 "passEnd" (some .int)) (G : gH) (y0 : Nat) (y3 : Int32) (hf : jX1_passEnd_97 v G y0 y3 = some r) (H : Heap) (locs : List Loc) (hR : gRep B0 D v G s H) (hS : va_S (gA B0) s.heap H locs) (ls : Array Slot) (hl : lv_has ls 4 [(0, .ref y0), (3, .int y3)]) : W p l e ({ frames := 2, cells := 0, slots := 0, locals := 43 } : Room) s m args below meth c H locs 0 0 (MQ below (gQ B0 D v (some (.int r.1)) r.2) args s 0 0 (gA B0)) (F0 m 97 ls []) := by
  obtain ⟨hx, hb, hr, hml, hown, hts, hlocks, hnm⟩ := id hM
  unfold jX1_passEnd_97 at hf
  refine lv_aload_n hx hb dX1_passEnd_97 rfl (lv_at hl 0 rfl) ?_
  refine g_getR hx hb hts hown hR lkX1_41 dX1_passEnd_98 hf (fun x1 hf => ?_)
  obtain ⟨x2, h3, hf⟩ := gb hf
  refine g_callV0 (st1 := [.int x2]) [] hx hb hml hown hts hR hS kvX1_68 (mX7_count l h3) (oX7_count h3) ⟨rfl, rfl, Nat.le_of_ble_eq_true rfl, Nat.le_of_ble_eq_true rfl⟩ hl.1 rfl (Nat.le_of_ble_eq_true rfl) dX1_passEnd_101 ⟨Nat.zero_le _, Nat.zero_le _⟩ rfl rfl (fun H locs hR hS => ?_)
  refine lv_iload_n hx hb dX1_passEnd_104 rfl (lv_at hl 1 rfl) ?_
  refine lv_isub hx hb dX1_passEnd_105 ?_
  refine lv_sipush (v := (512 : Int32)) hx hb dX1_passEnd_106 (by decide) ?_
  refine g_icmp_ge (tgt := 116) hx hb dX1_passEnd_109 (by decide) hf (fun h4 hf => ?_) (fun h4 hf => ?_)
  · refine lv_iload_n hx hb dX1_passEnd_116 rfl (lv_at hl 1 rfl) ?_
    have hf := Option.some.inj hf
    subst hf
    exact g_iret hx hb hr hlocks hR hS dX1_passEnd_117 rfl rfl
  · refine lv_iconst (v := (-1 : Int32)) hx hb dX1_passEnd_112 (by decide) ?_
    refine lv_goto (tgt := 117) hx hb dX1_passEnd_113 (by decide) ?_
    have hf := Option.some.inj hf
    subst hf
    exact g_iret hx hb hr hlocks hR hS dX1_passEnd_117 rfl rfl
set_option maxHeartbeats 4000000 in
set_option maxRecDepth 100000 in
theorem wX1_passEnd_65 {p : Program} {l : Launch} {e : Env} {s : State} {m : MethodId} {args : Array Value} {below : List Frame} {meth : Method} {c : Code} {B0 : Nat} {D : va_G} {v : Nat → Nat} {r : Int32 × gH} (hM : gM p s m args meth c cX1_passEnd 4 RX1 "passEnd" (some .int)) : ∀ (n : Nat) (G : gH) (y0 : Nat) (y3 : Int32), lX1_passEnd_65 v n G y0 y3 = some r → ∀ (H : Heap) (locs : List Loc), gRep B0 D v G s H → va_S (gA B0) s.heap H locs → ∀ (ls : Array Slot), lv_has ls 4 [(0, .ref y0), (3, .int y3)] → W p l e ({ frames := 2, cells := 0, slots := 0, locals := 43 } : Room) s m args below meth c H locs 0 0 (MQ below (gQ B0 D v (some (.int r.1)) r.2) args s 0 0 (gA B0)) (F0 m 65 ls []) := by
  obtain ⟨hx, hb, hr, hml, hown, hts, hlocks, hnm⟩ := id hM
  intro n
  induction n with
  | zero => intro G y0 y3 hf; cases hf
  | succ n ih =>
    intro G y0 y3 hf H locs hR hS ls hl
    have hK : ∀ (K : gH → Nat → Int32 → Option (Int32 × gH)), K = lX1_passEnd_65 v n → (∀ (G : gH) (q0 : Nat) (q3 : Int32) (H : Heap) (locs : List Loc) (ls : Array Slot), K G q0 q3 = some r → gRep B0 D v G s H → va_S (gA B0) s.heap H locs → lv_has ls 4 [(0, .ref q0), (3, .int q3)] → W p l e ({ frames := 2, cells := 0, slots := 0, locals := 43 } : Room) s m args below meth c H locs 0 0 (MQ below (gQ B0 D v (some (.int r.1)) r.2) args s 0 0 (gA B0)) (F0 m 65 ls [])) := fun K hk G q0 q3 H locs ls h1 h2 h3 h4 => ih G q0 q3 (by rw [← hk]; exact h1) H locs h2 h3 ls h4
    have hf : bX1_passEnd_65 v (lX1_passEnd_65 v n) G y0 y3 = some r := hf
    have hK := hK _ rfl
    generalize lX1_passEnd_65 v n = K at hf hK
    unfold bX1_passEnd_65 at hf
    refine lv_iload_n hx hb dX1_passEnd_65 rfl (lv_at hl 1 rfl) ?_
    refine lv_aload_n hx hb dX1_passEnd_66 rfl (lv_at hl 0 rfl) ?_
    refine g_getR hx hb hts hown hR lkX1_41 dX1_passEnd_67 hf (fun x1 hf => ?_)
    obtain ⟨x2, h3, hf⟩ := gb hf
    refine g_callV0 (st1 := [.int x2, .int y3]) [.int y3] hx hb hml hown hts hR hS kvX1_68 (mX7_count l h3) (oX7_count h3) ⟨rfl, rfl, Nat.le_of_ble_eq_true rfl, Nat.le_of_ble_eq_true rfl⟩ hl.1 rfl (Nat.le_of_ble_eq_true rfl) dX1_passEnd_70 ⟨Nat.zero_le _, Nat.zero_le _⟩ rfl rfl (fun H locs hR hS => ?_)
    refine lv_sipush (v := (512 : Int32)) hx hb dX1_passEnd_73 (by decide) ?_
    refine lv_isub hx hb dX1_passEnd_76 ?_
    refine g_icmp_gt (tgt := 97) hx hb dX1_passEnd_77 (by decide) hf (fun h4 hf => ?_) (fun h4 hf => ?_)
    · exact uX1_passEnd_97 hM G y0 y3 hf _ _ hR hS ls (lv_sub hl [0, 1] rfl)
    · refine lv_aload_n hx hb dX1_passEnd_80 rfl (lv_at hl 0 rfl) ?_
      refine lv_iload_n hx hb dX1_passEnd_81 rfl (lv_at hl 1 rfl) ?_
      obtain ⟨x5, h6, hf⟩ := gb hf
      refine g_callV0 (st1 := [.int x5]) [] hx hb hml hown hts hR hS kvX1_82 (mX1_isBlank l h6) (oX1_isBlank h6) ⟨rfl, rfl, Nat.le_of_ble_eq_true rfl, Nat.le_of_ble_eq_true rfl⟩ hl.1 rfl (Nat.le_of_ble_eq_true rfl) dX1_passEnd_82 ⟨Nat.zero_le _, Nat.zero_le _⟩ rfl rfl (fun H locs hR hS => ?_)
      refine g_if_eq (tgt := 97) hx hb dX1_passEnd_85 (by decide) hf (fun h7 hf => ?_) (fun h7 hf => ?_)
      · exact uX1_passEnd_97 hM G y0 y3 hf _ _ hR hS ls (lv_sub hl [0, 1] rfl)
      · refine g_iincW (k := 1) (n' := (512 : Int32)) (lv2 := [(0, .ref y0)]) hx hb dX1_passEnd_88 hl rfl (by decide) (by decide) rfl hf (fun x8 ls hf hl => ?_)
        refine lv_goto (tgt := 65) hx hb dX1_passEnd_94 (by decide) ?_
        exact hK G y0 x8 _ _ ls hf hR hS (lv_sub hl [1, 0] rfl)
theorem oX1_passEnd {v : Nat → Nat} {G : gH} {a0 : Nat} {a1 : Int32} {a2 : Int32} {r : Int32 × gH} (h : fX1_passEnd v G a0 a1 a2 = some r) : gOb G a0 1 = some () := by
  unfold fX1_passEnd at h
  obtain ⟨u, hu, -⟩ := gb h
  exact hu
set_option maxHeartbeats 4000000 in
set_option maxRecDepth 100000 in
theorem mX1_passEnd (l : Launch) {B0 : Nat} {D : va_G} {v : Nat → Nat} {G : gH} {a0 : Nat} {a1 : Int32} {a2 : Int32} {r : Int32 × gH} (hf : fX1_passEnd v G a0 a1 a2 = some r) : Met l yX1_passEnd (.code yX1_passEnd cX1_passEnd 4 (some .int) :: gW) ({ frames := 2, cells := 0, slots := 0, locals := 43 } : Room) (gPre B0 D v [.ref a0, .int a1, .int a2] G) (gQ B0 D v (some (.int r.1)) r.2) 0 0 (gA B0) := by
  refine g_met (lv := [(0, .ref a0), (1, .int a1), (2, .int a2)]) (by decide) (Nat.le_of_ble_eq_true rfl) rfl ?_
  intro p e s m below meth c hM hR ls hl
  obtain ⟨hx, hb, hr, hml, hown, hts, hlocks, hnm⟩ := id hM
  have hS : va_S (gA B0) s.heap s.heap [] := va_S.rf
  unfold fX1_passEnd at hf
  obtain ⟨-, -, hf⟩ := gb hf
  refine lv_aload_n hx hb dX1_passEnd_0 rfl (lv_at hl 0 rfl) ?_
  refine lv_iload_n hx hb dX1_passEnd_1 rfl (lv_at hl 1 rfl) ?_
  refine lv_sipush (v := (512 : Int32)) hx hb dX1_passEnd_2 (by decide) ?_
  refine lv_iadd hx hb dX1_passEnd_5 ?_
  obtain ⟨x1, h2, hf⟩ := gb hf
  refine g_callV0 (st1 := [.int x1]) [] hx hb hml hown hts hR hS kvX1_82 (mX1_isBlank l h2) (oX1_isBlank h2) ⟨rfl, rfl, Nat.le_of_ble_eq_true rfl, Nat.le_of_ble_eq_true rfl⟩ hl.1 rfl (Nat.le_of_ble_eq_true rfl) dX1_passEnd_6 ⟨Nat.zero_le _, Nat.zero_le _⟩ rfl rfl (fun H locs hR hS => ?_)
  refine g_if_ne (tgt := 22) hx hb dX1_passEnd_9 (by decide) hf (fun h3 hf => ?_) (fun h3 hf => ?_)
  · refine lv_aload_n hx hb dX1_passEnd_22 rfl (lv_at hl 0 rfl) ?_
    refine lv_dup hx hb dX1_passEnd_23 rfl ?_
    refine g_getI hx hb hts hown hR lkX1_38 dX1_passEnd_24 hf (fun x4 hf => ?_)
    refine lv_iconst (v := (1 : Int32)) hx hb dX1_passEnd_27 (by decide) ?_
    refine lv_iadd hx hb dX1_passEnd_28 ?_
    refine g_put hx hb hts hown hR hS lpX1_38 (Or.inl rfl) rfl rfl dX1_passEnd_29 hf (fun G5 H locs hf hR hS => ?_)
    refine lv_aload_n hx hb dX1_passEnd_32 rfl (lv_at hl 0 rfl) ?_
    refine g_getR hx hb hts hown hR lkX1_20 dX1_passEnd_33 hf (fun x6 hf => ?_)
    obtain ⟨x7, h8, hf⟩ := gb hf
    refine g_callV0 (st1 := [.int x7]) [] hx hb hml hown hts hR hS kvX1_74 (mX0_tellsSomething l h8) (oX0_tellsSomething h8) ⟨rfl, rfl, Nat.le_of_ble_eq_true rfl, Nat.le_of_ble_eq_true rfl⟩ hl.1 rfl (Nat.le_of_ble_eq_true rfl) dX1_passEnd_36 ⟨Nat.zero_le _, Nat.zero_le _⟩ rfl rfl (fun H locs hR hS => ?_)
    refine g_if_eq (tgt := 53) hx hb dX1_passEnd_39 (by decide) hf (fun h9 hf => ?_) (fun h9 hf => ?_)
    · refine lv_iload_n hx hb dX1_passEnd_53 rfl (lv_at hl 2 rfl) ?_
      refine g_if_ne (tgt := 59) hx hb dX1_passEnd_54 (by decide) hf (fun h10 hf => ?_) (fun h10 hf => ?_)
      · refine lv_iload_n hx hb dX1_passEnd_59 rfl (lv_at hl 1 rfl) ?_
        refine lv_sipush (v := (1024 : Int32)) hx hb dX1_passEnd_60 (by decide) ?_
        refine lv_iadd hx hb dX1_passEnd_63 ?_
        refine g_nmI hf (fun x11 hf => ?_)
        refine lv_istore_n (lv' := [(3, .int x11), (0, .ref a0), (1, .int a1), (2, .int a2)]) hx hb dX1_passEnd_64 rfl hl (by decide) rfl (fun ls hl => ?_)
        exact wX1_passEnd_65 hM gFu G5 a0 x11 hf _ _ hR hS ls (lv_sub hl [1, 0] rfl)
      · refine lv_iconst (v := (-1 : Int32)) hx hb dX1_passEnd_57 (by decide) ?_
        have hf := Option.some.inj hf
        subst hf
        exact g_iret hx hb hr hlocks hR hS dX1_passEnd_58 rfl rfl
    · refine lv_aload_n hx hb dX1_passEnd_42 rfl (lv_at hl 0 rfl) ?_
      refine g_getR hx hb hts hown hR lkX1_30 dX1_passEnd_43 hf (fun x12 hf => ?_)
      refine lv_bipush (v := (12 : Int32)) hx hb dX1_passEnd_46 (by decide) ?_
      refine lv_iload_n hx hb dX1_passEnd_48 rfl (lv_at hl 1 rfl) ?_
      obtain ⟨x13, h14, hf⟩ := gb hf
      refine g_callV0 (st1 := [.int x13.1]) [] hx hb hml hown hts hR hS kvX1_78 (mX4_end l h14) (oX4_end h14) ⟨rfl, rfl, Nat.le_of_ble_eq_true rfl, Nat.le_of_ble_eq_true rfl⟩ hl.1 rfl (Nat.le_of_ble_eq_true rfl) dX1_passEnd_49 ⟨Nat.zero_le _, Nat.zero_le _⟩ rfl rfl (fun H locs hR hS => ?_)
      have hf := Option.some.inj hf
      subst hf
      exact g_iret hx hb hr hlocks hR hS dX1_passEnd_52 rfl rfl
  · refine lv_aload_n hx hb dX1_passEnd_12 rfl (lv_at hl 0 rfl) ?_
    refine g_getR hx hb hts hown hR lkX1_30 dX1_passEnd_13 hf (fun x15 hf => ?_)
    refine lv_iconst (v := (3 : Int32)) hx hb dX1_passEnd_16 (by decide) ?_
    refine lv_iload_n hx hb dX1_passEnd_17 rfl (lv_at hl 1 rfl) ?_
    obtain ⟨x16, h17, hf⟩ := gb hf
    refine g_callV0 (st1 := [.int x16.1]) [] hx hb hml hown hts hR hS kvX1_78 (mX4_end l h17) (oX4_end h17) ⟨rfl, rfl, Nat.le_of_ble_eq_true rfl, Nat.le_of_ble_eq_true rfl⟩ hl.1 rfl (Nat.le_of_ble_eq_true rfl) dX1_passEnd_18 ⟨Nat.zero_le _, Nat.zero_le _⟩ rfl rfl (fun H locs hR hS => ?_)
    have hf := Option.some.inj hf
    subst hf
    exact g_iret hx hb hr hlocks hR hS dX1_passEnd_21 rfl rfl
set_option maxHeartbeats 4000000 in
set_option maxRecDepth 100000 in
theorem uX6_takeOctal_137 {p : Program} {l : Launch} {e : Env} {s : State} {m : MethodId} {args : Array Value} {below : List Frame} {meth : Method} {c : Code} {B0 : Nat} {D : va_G} {v : Nat → Nat} {r : Int32 × gH} {K : gH → Nat → Int32 → Int32 → Option (Int32 × gH)} (hM : gM p s m args meth c cX6_takeOctal 5 RX6 "takeOctal" (some .boolean)) (hK : ∀ (G : gH) (q0 : Nat) (q3 : Int32) (q4 : Int32) (H : Heap) (locs : List Loc) (ls : Array Slot), K G q0 q3 q4 = some r → gRep B0 D v G s H → va_S (gA B0) s.heap H locs → lv_has ls 5 [(0, .ref q0), (3, .int q3), (4, .int q4)] → W p l e ({ frames := 1, cells := 0, slots := 0, locals := 21 } : Room) s m args below meth c H locs 0 0 (MQ below (gQ B0 D v (some (.int r.1)) r.2) args s 0 0 (gA B0)) (F0 m 105 ls [])) (G : gH) (y0 : Nat) (y3 : Int32) (y4 : Int32) (hf : jX6_takeOctal_137 v K G y0 y3 y4 = some r) (H : Heap) (locs : List Loc) (hR : gRep B0 D v G s H) (hS : va_S (gA B0) s.heap H locs) (ls : Array Slot) (hl : lv_has ls 5 [(0, .ref y0), (3, .int y3), (4, .int y4)]) : W p l e ({ frames := 1, cells := 0, slots := 0, locals := 21 } : Room) s m args below meth c H locs 0 0 (MQ below (gQ B0 D v (some (.int r.1)) r.2) args s 0 0 (gA B0)) (F0 m 137 ls []) := by
  obtain ⟨hx, hb, hr, hml, hown, hts, hlocks, hnm⟩ := id hM
  unfold jX6_takeOctal_137 at hf
  refine g_iinc (k := 2) (n' := (1 : Int32)) (lv2 := [(0, .ref y0), (3, .int y3)]) hx hb dX6_takeOctal_137 hl rfl (by decide) (by decide) rfl hf (fun x1 ls hf hl => ?_)
  refine lv_goto (tgt := 105) hx hb dX6_takeOctal_140 (by decide) ?_
  exact hK G y0 y3 x1 _ _ ls hf hR hS (lv_sub hl [1, 2, 0] rfl)
set_option maxHeartbeats 4000000 in
set_option maxRecDepth 100000 in
theorem uX6_takeOctal_143 {p : Program} {l : Launch} {e : Env} {s : State} {m : MethodId} {args : Array Value} {below : List Frame} {meth : Method} {c : Code} {B0 : Nat} {D : va_G} {v : Nat → Nat} {r : Int32 × gH} (hM : gM p s m args meth c cX6_takeOctal 5 RX6 "takeOctal" (some .boolean)) (G : gH) (y3 : Int32) (y4 : Int32) (hf : jX6_takeOctal_143 v G y3 y4 = some r) (H : Heap) (locs : List Loc) (hR : gRep B0 D v G s H) (hS : va_S (gA B0) s.heap H locs) (ls : Array Slot) (hl : lv_has ls 5 [(3, .int y3), (4, .int y4)]) : W p l e ({ frames := 1, cells := 0, slots := 0, locals := 21 } : Room) s m args below meth c H locs 0 0 (MQ below (gQ B0 D v (some (.int r.1)) r.2) args s 0 0 (gA B0)) (F0 m 143 ls []) := by
  obtain ⟨hx, hb, hr, hml, hown, hts, hlocks, hnm⟩ := id hM
  unfold jX6_takeOctal_143 at hf
  refine lv_iload hx hb dX6_takeOctal_143 (lv_at hl 1 rfl) ?_
  refine lv_iload_n hx hb dX6_takeOctal_145 rfl (lv_at hl 0 rfl) ?_
  refine g_icmp_ne (tgt := 153) hx hb dX6_takeOctal_146 (by decide) hf (fun h1 hf => ?_) (fun h1 hf => ?_)
  · refine lv_iconst (v := (0 : Int32)) hx hb dX6_takeOctal_153 (by decide) ?_
    refine g_zz hf (fun h2 _ hf => ?_)
    have hf := Option.some.inj hf
    subst hf
    exact g_zret hx hb hr hlocks hR hS dX6_takeOctal_154 h2 rfl rfl
  · refine lv_iconst (v := (1 : Int32)) hx hb dX6_takeOctal_149 (by decide) ?_
    refine lv_goto (tgt := 154) hx hb dX6_takeOctal_150 (by decide) ?_
    refine g_zz hf (fun h3 _ hf => ?_)
    have hf := Option.some.inj hf
    subst hf
    exact g_zret hx hb hr hlocks hR hS dX6_takeOctal_154 h3 rfl rfl
set_option maxHeartbeats 4000000 in
set_option maxRecDepth 100000 in
theorem wX6_takeOctal_105 {p : Program} {l : Launch} {e : Env} {s : State} {m : MethodId} {args : Array Value} {below : List Frame} {meth : Method} {c : Code} {B0 : Nat} {D : va_G} {v : Nat → Nat} {r : Int32 × gH} (hM : gM p s m args meth c cX6_takeOctal 5 RX6 "takeOctal" (some .boolean)) : ∀ (n : Nat) (G : gH) (y0 : Nat) (y3 : Int32) (y4 : Int32), lX6_takeOctal_105 v n G y0 y3 y4 = some r → ∀ (H : Heap) (locs : List Loc), gRep B0 D v G s H → va_S (gA B0) s.heap H locs → ∀ (ls : Array Slot), lv_has ls 5 [(0, .ref y0), (3, .int y3), (4, .int y4)] → W p l e ({ frames := 1, cells := 0, slots := 0, locals := 21 } : Room) s m args below meth c H locs 0 0 (MQ below (gQ B0 D v (some (.int r.1)) r.2) args s 0 0 (gA B0)) (F0 m 105 ls []) := by
  obtain ⟨hx, hb, hr, hml, hown, hts, hlocks, hnm⟩ := id hM
  intro n
  induction n with
  | zero => intro G y0 y3 y4 hf; cases hf
  | succ n ih =>
    intro G y0 y3 y4 hf H locs hR hS ls hl
    have hK : ∀ (K : gH → Nat → Int32 → Int32 → Option (Int32 × gH)), K = lX6_takeOctal_105 v n → (∀ (G : gH) (q0 : Nat) (q3 : Int32) (q4 : Int32) (H : Heap) (locs : List Loc) (ls : Array Slot), K G q0 q3 q4 = some r → gRep B0 D v G s H → va_S (gA B0) s.heap H locs → lv_has ls 5 [(0, .ref q0), (3, .int q3), (4, .int q4)] → W p l e ({ frames := 1, cells := 0, slots := 0, locals := 21 } : Room) s m args below meth c H locs 0 0 (MQ below (gQ B0 D v (some (.int r.1)) r.2) args s 0 0 (gA B0)) (F0 m 105 ls [])) := fun K hk G q0 q3 q4 H locs ls h1 h2 h3 h4 => ih G q0 q3 q4 (by rw [← hk]; exact h1) H locs h2 h3 ls h4
    have hf : bX6_takeOctal_105 v (lX6_takeOctal_105 v n) G y0 y3 y4 = some r := hf
    have hK := hK _ rfl
    generalize lX6_takeOctal_105 v n = K at hf hK
    unfold bX6_takeOctal_105 at hf
    refine lv_iload hx hb dX6_takeOctal_105 (lv_at hl 2 rfl) ?_
    refine lv_iload_n hx hb dX6_takeOctal_107 rfl (lv_at hl 1 rfl) ?_
    refine g_icmp_ge (tgt := 143) hx hb dX6_takeOctal_108 (by decide) hf (fun h1 hf => ?_) (fun h1 hf => ?_)
    · exact uX6_takeOctal_143 hM G y3 y4 hf _ _ hR hS ls (lv_sub hl [1, 2] rfl)
    · refine lv_aload_n hx hb dX6_takeOctal_111 rfl (lv_at hl 0 rfl) ?_
      refine g_getR hx hb hts hown hR lkX6_30 dX6_takeOctal_112 hf (fun x2 hf => ?_)
      refine lv_iload hx hb dX6_takeOctal_115 (lv_at hl 2 rfl) ?_
      obtain ⟨x3, h4, hf⟩ := gb hf
      refine g_callV0 (st1 := [.int x3]) [] hx hb hml hown hts hR hS kvX6_56 (mX7_at l h4) (oX7_at h4) ⟨rfl, rfl, Nat.le_of_ble_eq_true rfl, Nat.le_of_ble_eq_true rfl⟩ hl.1 rfl (Nat.le_of_ble_eq_true rfl) dX6_takeOctal_117 ⟨Nat.zero_le _, Nat.zero_le _⟩ rfl rfl (fun H locs hR hS => ?_)
      refine lv_bipush (v := (32 : Int32)) hx hb dX6_takeOctal_120 (by decide) ?_
      refine g_icmp_eq (tgt := 137) hx hb dX6_takeOctal_122 (by decide) hf (fun h5 hf => ?_) (fun h5 hf => ?_)
      · exact uX6_takeOctal_137 hM hK G y0 y3 y4 hf _ _ hR hS ls (lv_sub hl [0, 1, 2] rfl)
      · refine lv_aload_n hx hb dX6_takeOctal_125 rfl (lv_at hl 0 rfl) ?_
        refine g_getR hx hb hts hown hR lkX6_30 dX6_takeOctal_126 hf (fun x6 hf => ?_)
        refine lv_iload hx hb dX6_takeOctal_129 (lv_at hl 2 rfl) ?_
        obtain ⟨x7, h8, hf⟩ := gb hf
        refine g_callV0 (st1 := [.int x7]) [] hx hb hml hown hts hR hS kvX6_56 (mX7_at l h8) (oX7_at h8) ⟨rfl, rfl, Nat.le_of_ble_eq_true rfl, Nat.le_of_ble_eq_true rfl⟩ hl.1 rfl (Nat.le_of_ble_eq_true rfl) dX6_takeOctal_131 ⟨Nat.zero_le _, Nat.zero_le _⟩ rfl rfl (fun H locs hR hS => ?_)
        refine g_if_ne (tgt := 143) hx hb dX6_takeOctal_134 (by decide) hf (fun h9 hf => ?_) (fun h9 hf => ?_)
        · exact uX6_takeOctal_143 hM G y3 y4 hf _ _ hR hS ls (lv_sub hl [1, 2] rfl)
        · exact uX6_takeOctal_137 hM hK G y0 y3 y4 hf _ _ hR hS ls (lv_sub hl [0, 1, 2] rfl)
set_option maxHeartbeats 4000000 in
set_option maxRecDepth 100000 in
theorem wX6_takeOctal_38 {p : Program} {l : Launch} {e : Env} {s : State} {m : MethodId} {args : Array Value} {below : List Frame} {meth : Method} {c : Code} {B0 : Nat} {D : va_G} {v : Nat → Nat} {r : Int32 × gH} (hM : gM p s m args meth c cX6_takeOctal 5 RX6 "takeOctal" (some .boolean)) : ∀ (n : Nat) (G : gH) (y0 : Nat) (y3 : Int32) (y4 : Int32), lX6_takeOctal_38 v n G y0 y3 y4 = some r → ∀ (H : Heap) (locs : List Loc), gRep B0 D v G s H → va_S (gA B0) s.heap H locs → ∀ (ls : Array Slot), lv_has ls 5 [(0, .ref y0), (3, .int y3), (4, .int y4)] → W p l e ({ frames := 1, cells := 0, slots := 0, locals := 21 } : Room) s m args below meth c H locs 0 0 (MQ below (gQ B0 D v (some (.int r.1)) r.2) args s 0 0 (gA B0)) (F0 m 38 ls []) := by
  obtain ⟨hx, hb, hr, hml, hown, hts, hlocks, hnm⟩ := id hM
  intro n
  induction n with
  | zero => intro G y0 y3 y4 hf; cases hf
  | succ n ih =>
    intro G y0 y3 y4 hf H locs hR hS ls hl
    have hK : ∀ (K : gH → Nat → Int32 → Int32 → Option (Int32 × gH)), K = lX6_takeOctal_38 v n → (∀ (G : gH) (q0 : Nat) (q3 : Int32) (q4 : Int32) (H : Heap) (locs : List Loc) (ls : Array Slot), K G q0 q3 q4 = some r → gRep B0 D v G s H → va_S (gA B0) s.heap H locs → lv_has ls 5 [(0, .ref q0), (3, .int q3), (4, .int q4)] → W p l e ({ frames := 1, cells := 0, slots := 0, locals := 21 } : Room) s m args below meth c H locs 0 0 (MQ below (gQ B0 D v (some (.int r.1)) r.2) args s 0 0 (gA B0)) (F0 m 38 ls [])) := fun K hk G q0 q3 q4 H locs ls h1 h2 h3 h4 => ih G q0 q3 q4 (by rw [← hk]; exact h1) H locs h2 h3 ls h4
    have hf : bX6_takeOctal_38 v (lX6_takeOctal_38 v n) G y0 y3 y4 = some r := hf
    have hK := hK _ rfl
    generalize lX6_takeOctal_38 v n = K at hf hK
    unfold bX6_takeOctal_38 at hf
    refine lv_iload hx hb dX6_takeOctal_38 (lv_at hl 2 rfl) ?_
    refine lv_iload_n hx hb dX6_takeOctal_40 rfl (lv_at hl 1 rfl) ?_
    refine g_icmp_ge (tgt := 105) hx hb dX6_takeOctal_41 (by decide) hf (fun h1 hf => ?_) (fun h1 hf => ?_)
    · exact wX6_takeOctal_105 hM gFu G y0 y3 y4 hf _ _ hR hS ls (lv_sub hl [0, 1, 2] rfl)
    · refine lv_aload_n hx hb dX6_takeOctal_44 rfl (lv_at hl 0 rfl) ?_
      refine g_getR hx hb hts hown hR lkX6_30 dX6_takeOctal_45 hf (fun x2 hf => ?_)
      refine lv_iload hx hb dX6_takeOctal_48 (lv_at hl 2 rfl) ?_
      obtain ⟨x3, h4, hf⟩ := gb hf
      refine g_callV0 (st1 := [.int x3]) [] hx hb hml hown hts hR hS kvX6_56 (mX7_at l h4) (oX7_at h4) ⟨rfl, rfl, Nat.le_of_ble_eq_true rfl, Nat.le_of_ble_eq_true rfl⟩ hl.1 rfl (Nat.le_of_ble_eq_true rfl) dX6_takeOctal_50 ⟨Nat.zero_le _, Nat.zero_le _⟩ rfl rfl (fun H locs hR hS => ?_)
      refine lv_bipush (v := (48 : Int32)) hx hb dX6_takeOctal_53 (by decide) ?_
      refine g_icmp_lt (tgt := 105) hx hb dX6_takeOctal_55 (by decide) hf (fun h5 hf => ?_) (fun h5 hf => ?_)
      · exact wX6_takeOctal_105 hM gFu G y0 y3 y4 hf _ _ hR hS ls (lv_sub hl [0, 1, 2] rfl)
      · refine lv_aload_n hx hb dX6_takeOctal_58 rfl (lv_at hl 0 rfl) ?_
        refine g_getR hx hb hts hown hR lkX6_30 dX6_takeOctal_59 hf (fun x6 hf => ?_)
        refine lv_iload hx hb dX6_takeOctal_62 (lv_at hl 2 rfl) ?_
        obtain ⟨x7, h8, hf⟩ := gb hf
        refine g_callV0 (st1 := [.int x7]) [] hx hb hml hown hts hR hS kvX6_56 (mX7_at l h8) (oX7_at h8) ⟨rfl, rfl, Nat.le_of_ble_eq_true rfl, Nat.le_of_ble_eq_true rfl⟩ hl.1 rfl (Nat.le_of_ble_eq_true rfl) dX6_takeOctal_64 ⟨Nat.zero_le _, Nat.zero_le _⟩ rfl rfl (fun H locs hR hS => ?_)
        refine lv_bipush (v := (55 : Int32)) hx hb dX6_takeOctal_67 (by decide) ?_
        refine g_icmp_gt (tgt := 105) hx hb dX6_takeOctal_69 (by decide) hf (fun h9 hf => ?_) (fun h9 hf => ?_)
        · exact wX6_takeOctal_105 hM gFu G y0 y3 y4 hf _ _ hR hS ls (lv_sub hl [0, 1, 2] rfl)
        · refine lv_aload_n hx hb dX6_takeOctal_72 rfl (lv_at hl 0 rfl) ?_
          refine lv_aload_n hx hb dX6_takeOctal_73 rfl (lv_at hl 0 rfl) ?_
          refine g_getJ hx hb hts hown hR lkX6_9 dX6_takeOctal_74 hf (fun x10 hf => ?_)
          refine lv_ldc2 (v := (8 : Int64)) hx hb hown (hts _ kcX6_65) dX6_takeOctal_77 ?_
          refine lv_lmul hx hb dX6_takeOctal_80 ?_
          refine lv_aload_n hx hb dX6_takeOctal_81 rfl (lv_at hl 0 rfl) ?_
          refine g_getR hx hb hts hown hR lkX6_30 dX6_takeOctal_82 hf (fun x11 hf => ?_)
          refine lv_iload hx hb dX6_takeOctal_85 (lv_at hl 2 rfl) ?_
          obtain ⟨x12, h13, hf⟩ := gb hf
          refine g_callV0 (st1 := [.int x12, .long (x10 * (8 : Int64)), .ref y0]) [.long (x10 * (8 : Int64)), .ref y0] hx hb hml hown hts hR hS kvX6_56 (mX7_at l h13) (oX7_at h13) ⟨rfl, rfl, Nat.le_of_ble_eq_true rfl, Nat.le_of_ble_eq_true rfl⟩ hl.1 rfl (Nat.le_of_ble_eq_true rfl) dX6_takeOctal_87 ⟨Nat.zero_le _, Nat.zero_le _⟩ rfl rfl (fun H locs hR hS => ?_)
          refine lv_i2l hx hb dX6_takeOctal_90 rfl ?_
          refine lv_ladd hx hb dX6_takeOctal_91 ?_
          refine lv_ldc2 (v := (48 : Int64)) hx hb hown (hts _ kcX6_67) dX6_takeOctal_92 ?_
          refine lv_lsub hx hb dX6_takeOctal_95 ?_
          refine g_put hx hb hts hown hR hS lpX6_9 (Or.inl rfl) rfl rfl dX6_takeOctal_96 hf (fun G14 H locs hf hR hS => ?_)
          refine g_iinc (k := 2) (n' := (1 : Int32)) (lv2 := [(0, .ref y0), (3, .int y3)]) hx hb dX6_takeOctal_99 hl rfl (by decide) (by decide) rfl hf (fun x15 ls hf hl => ?_)
          refine lv_goto (tgt := 38) hx hb dX6_takeOctal_102 (by decide) ?_
          exact hK G14 y0 y3 x15 _ _ ls hf hR hS (lv_sub hl [1, 2, 0] rfl)
set_option maxHeartbeats 4000000 in
set_option maxRecDepth 100000 in
theorem uX6_takeOctal_33 {p : Program} {l : Launch} {e : Env} {s : State} {m : MethodId} {args : Array Value} {below : List Frame} {meth : Method} {c : Code} {B0 : Nat} {D : va_G} {v : Nat → Nat} {r : Int32 × gH} (hM : gM p s m args meth c cX6_takeOctal 5 RX6 "takeOctal" (some .boolean)) (G : gH) (y0 : Nat) (y3 : Int32) (y4 : Int32) (hf : jX6_takeOctal_33 v G y0 y3 y4 = some r) (H : Heap) (locs : List Loc) (hR : gRep B0 D v G s H) (hS : va_S (gA B0) s.heap H locs) (ls : Array Slot) (hl : lv_has ls 5 [(0, .ref y0), (3, .int y3), (4, .int y4)]) : W p l e ({ frames := 1, cells := 0, slots := 0, locals := 21 } : Room) s m args below meth c H locs 0 0 (MQ below (gQ B0 D v (some (.int r.1)) r.2) args s 0 0 (gA B0)) (F0 m 33 ls []) := by
  obtain ⟨hx, hb, hr, hml, hown, hts, hlocks, hnm⟩ := id hM
  unfold jX6_takeOctal_33 at hf
  refine lv_aload_n hx hb dX6_takeOctal_33 rfl (lv_at hl 0 rfl) ?_
  refine lv_lconst (v := (0 : Int64)) hx hb dX6_takeOctal_34 (by decide) ?_
  refine g_put hx hb hts hown hR hS lpX6_9 (Or.inl rfl) rfl rfl dX6_takeOctal_35 hf (fun G1 H locs hf hR hS => ?_)
  exact wX6_takeOctal_38 hM gFu G1 y0 y3 y4 hf _ _ hR hS ls (lv_sub hl [0, 1, 2] rfl)
set_option maxHeartbeats 4000000 in
set_option maxRecDepth 100000 in
theorem wX6_takeOctal_7 {p : Program} {l : Launch} {e : Env} {s : State} {m : MethodId} {args : Array Value} {below : List Frame} {meth : Method} {c : Code} {B0 : Nat} {D : va_G} {v : Nat → Nat} {r : Int32 × gH} (hM : gM p s m args meth c cX6_takeOctal 5 RX6 "takeOctal" (some .boolean)) : ∀ (n : Nat) (G : gH) (y0 : Nat) (y3 : Int32) (y4 : Int32), lX6_takeOctal_7 v n G y0 y3 y4 = some r → ∀ (H : Heap) (locs : List Loc), gRep B0 D v G s H → va_S (gA B0) s.heap H locs → ∀ (ls : Array Slot), lv_has ls 5 [(0, .ref y0), (3, .int y3), (4, .int y4)] → W p l e ({ frames := 1, cells := 0, slots := 0, locals := 21 } : Room) s m args below meth c H locs 0 0 (MQ below (gQ B0 D v (some (.int r.1)) r.2) args s 0 0 (gA B0)) (F0 m 7 ls []) := by
  obtain ⟨hx, hb, hr, hml, hown, hts, hlocks, hnm⟩ := id hM
  intro n
  induction n with
  | zero => intro G y0 y3 y4 hf; cases hf
  | succ n ih =>
    intro G y0 y3 y4 hf H locs hR hS ls hl
    have hK : ∀ (K : gH → Nat → Int32 → Int32 → Option (Int32 × gH)), K = lX6_takeOctal_7 v n → (∀ (G : gH) (q0 : Nat) (q3 : Int32) (q4 : Int32) (H : Heap) (locs : List Loc) (ls : Array Slot), K G q0 q3 q4 = some r → gRep B0 D v G s H → va_S (gA B0) s.heap H locs → lv_has ls 5 [(0, .ref q0), (3, .int q3), (4, .int q4)] → W p l e ({ frames := 1, cells := 0, slots := 0, locals := 21 } : Room) s m args below meth c H locs 0 0 (MQ below (gQ B0 D v (some (.int r.1)) r.2) args s 0 0 (gA B0)) (F0 m 7 ls [])) := fun K hk G q0 q3 q4 H locs ls h1 h2 h3 h4 => ih G q0 q3 q4 (by rw [← hk]; exact h1) H locs h2 h3 ls h4
    have hf : bX6_takeOctal_7 v (lX6_takeOctal_7 v n) G y0 y3 y4 = some r := hf
    have hK := hK _ rfl
    generalize lX6_takeOctal_7 v n = K at hf hK
    unfold bX6_takeOctal_7 at hf
    refine lv_iload hx hb dX6_takeOctal_7 (lv_at hl 2 rfl) ?_
    refine lv_iload_n hx hb dX6_takeOctal_9 rfl (lv_at hl 1 rfl) ?_
    refine g_icmp_ge (tgt := 33) hx hb dX6_takeOctal_10 (by decide) hf (fun h1 hf => ?_) (fun h1 hf => ?_)
    · exact uX6_takeOctal_33 hM G y0 y3 y4 hf _ _ hR hS ls (lv_sub hl [0, 1, 2] rfl)
    · refine lv_aload_n hx hb dX6_takeOctal_13 rfl (lv_at hl 0 rfl) ?_
      refine g_getR hx hb hts hown hR lkX6_30 dX6_takeOctal_14 hf (fun x2 hf => ?_)
      refine lv_iload hx hb dX6_takeOctal_17 (lv_at hl 2 rfl) ?_
      obtain ⟨x3, h4, hf⟩ := gb hf
      refine g_callV0 (st1 := [.int x3]) [] hx hb hml hown hts hR hS kvX6_56 (mX7_at l h4) (oX7_at h4) ⟨rfl, rfl, Nat.le_of_ble_eq_true rfl, Nat.le_of_ble_eq_true rfl⟩ hl.1 rfl (Nat.le_of_ble_eq_true rfl) dX6_takeOctal_19 ⟨Nat.zero_le _, Nat.zero_le _⟩ rfl rfl (fun H locs hR hS => ?_)
      refine lv_bipush (v := (32 : Int32)) hx hb dX6_takeOctal_22 (by decide) ?_
      refine g_icmp_ne (tgt := 33) hx hb dX6_takeOctal_24 (by decide) hf (fun h5 hf => ?_) (fun h5 hf => ?_)
      · exact uX6_takeOctal_33 hM G y0 y3 y4 hf _ _ hR hS ls (lv_sub hl [0, 1, 2] rfl)
      · refine g_iinc (k := 2) (n' := (1 : Int32)) (lv2 := [(0, .ref y0), (3, .int y3)]) hx hb dX6_takeOctal_27 hl rfl (by decide) (by decide) rfl hf (fun x6 ls hf hl => ?_)
        refine lv_goto (tgt := 7) hx hb dX6_takeOctal_30 (by decide) ?_
        exact hK G y0 y3 x6 _ _ ls hf hR hS (lv_sub hl [1, 2, 0] rfl)
theorem oX6_takeOctal {v : Nat → Nat} {G : gH} {a0 : Nat} {a1 : Int32} {a2 : Int32} {r : Int32 × gH} (h : fX6_takeOctal v G a0 a1 a2 = some r) : gOb G a0 6 = some () := by
  unfold fX6_takeOctal at h
  obtain ⟨u, hu, -⟩ := gb h
  exact hu
set_option maxHeartbeats 4000000 in
set_option maxRecDepth 100000 in
theorem mX6_takeOctal (l : Launch) {B0 : Nat} {D : va_G} {v : Nat → Nat} {G : gH} {a0 : Nat} {a1 : Int32} {a2 : Int32} {r : Int32 × gH} (hf : fX6_takeOctal v G a0 a1 a2 = some r) : Met l yX6_takeOctal (.code yX6_takeOctal cX6_takeOctal 5 (some .boolean) :: gW) ({ frames := 1, cells := 0, slots := 0, locals := 21 } : Room) (gPre B0 D v [.ref a0, .int a1, .int a2] G) (gQ B0 D v (some (.int r.1)) r.2) 0 0 (gA B0) := by
  refine g_met (lv := [(0, .ref a0), (1, .int a1), (2, .int a2)]) (by decide) (Nat.le_of_ble_eq_true rfl) rfl ?_
  intro p e s m below meth c hM hR ls hl
  obtain ⟨hx, hb, hr, hml, hown, hts, hlocks, hnm⟩ := id hM
  have hS : va_S (gA B0) s.heap s.heap [] := va_S.rf
  unfold fX6_takeOctal at hf
  obtain ⟨-, -, hf⟩ := gb hf
  refine lv_iload_n hx hb dX6_takeOctal_0 rfl (lv_at hl 1 rfl) ?_
  refine lv_iload_n hx hb dX6_takeOctal_1 rfl (lv_at hl 2 rfl) ?_
  refine lv_iadd hx hb dX6_takeOctal_2 ?_
  refine g_nmI hf (fun x1 hf => ?_)
  refine lv_istore_n (lv' := [(3, .int x1), (0, .ref a0), (1, .int a1), (2, .int a2)]) hx hb dX6_takeOctal_3 rfl hl (by decide) rfl (fun ls hl => ?_)
  refine lv_iload_n hx hb dX6_takeOctal_4 rfl (lv_at hl 2 rfl) ?_
  refine lv_istore (lv' := [(4, .int a1), (3, .int x1), (0, .ref a0), (1, .int a1), (2, .int a2)]) hx hb dX6_takeOctal_5 hl (by decide) rfl (fun ls hl => ?_)
  exact wX6_takeOctal_7 hM gFu G a0 x1 a1 hf _ _ hR hS ls (lv_sub hl [2, 1, 0] rfl)
set_option maxHeartbeats 4000000 in
set_option maxRecDepth 100000 in
theorem uX10_sumOf_56 {p : Program} {l : Launch} {e : Env} {s : State} {m : MethodId} {args : Array Value} {below : List Frame} {meth : Method} {c : Code} {B0 : Nat} {D : va_G} {v : Nat → Nat} {r : Int32} {G : gH} {K : Nat → Int32 → Int32 → Int32 → Int32 → Option Int32} (hM : gM p s m args meth c cX10_sumOf 6 RX10 "sumOf" (some .int)) (hK : ∀ (q0 : Nat) (q1 : Int32) (q2 : Int32) (q3 : Int32) (q4 : Int32) (H : Heap) (locs : List Loc) (ls : Array Slot), K q0 q1 q2 q3 q4 = some r → gRep B0 D v G s H → va_S (gA B0) s.heap H locs → lv_has ls 6 [(0, .ref q0), (1, .int q1), (2, .int q2), (3, .int q3), (4, .int q4)] → W p l e ({ frames := 1, cells := 0, slots := 0, locals := 21 } : Room) s m args below meth c H locs 0 0 (MQ below (gQ B0 D v (some (.int r)) G) args s 0 0 (gA B0)) (F0 m 5 ls [])) (y0 : Nat) (y1 : Int32) (y2 : Int32) (y4 : Int32) (z0 : Int32) (z1 : Int32) (hf : jX10_sumOf_56 v G K y0 y1 y2 y4 z0 z1 = some r) (H : Heap) (locs : List Loc) (hR : gRep B0 D v G s H) (hS : va_S (gA B0) s.heap H locs) (ls : Array Slot) (hl : lv_has ls 6 [(0, .ref y0), (1, .int y1), (2, .int y2), (4, .int y4)]) : W p l e ({ frames := 1, cells := 0, slots := 0, locals := 21 } : Room) s m args below meth c H locs 0 0 (MQ below (gQ B0 D v (some (.int r)) G) args s 0 0 (gA B0)) (F0 m 56 ls [.int z0, .int z1]) := by
  obtain ⟨hx, hb, hr, hml, hown, hts, hlocks, hnm⟩ := id hM
  unfold jX10_sumOf_56 at hf
  refine lv_iadd hx hb dX10_sumOf_56 ?_
  refine g_nmI hf (fun x1 hf => ?_)
  refine lv_istore_n (lv' := [(3, .int x1), (0, .ref y0), (1, .int y1), (2, .int y2), (4, .int y4)]) hx hb dX10_sumOf_57 rfl hl (by decide) rfl (fun ls hl => ?_)
  refine g_iinc (k := 4) (n' := (1 : Int32)) (lv2 := [(3, .int x1), (0, .ref y0), (1, .int y1), (2, .int y2)]) hx hb dX10_sumOf_58 hl rfl (by decide) (by decide) rfl hf (fun x2 ls hf hl => ?_)
  refine lv_goto (tgt := 5) hx hb dX10_sumOf_61 (by decide) ?_
  exact hK y0 y1 y2 x1 x2 _ _ ls hf hR hS (lv_sub hl [2, 3, 4, 1, 0] rfl)
set_option maxHeartbeats 4000000 in
set_option maxRecDepth 100000 in
theorem uX10_sumOf_43 {p : Program} {l : Launch} {e : Env} {s : State} {m : MethodId} {args : Array Value} {below : List Frame} {meth : Method} {c : Code} {B0 : Nat} {D : va_G} {v : Nat → Nat} {r : Int32} {G : gH} {K : Nat → Int32 → Int32 → Int32 → Int32 → Option Int32} (hM : gM p s m args meth c cX10_sumOf 6 RX10 "sumOf" (some .int)) (hK : ∀ (q0 : Nat) (q1 : Int32) (q2 : Int32) (q3 : Int32) (q4 : Int32) (H : Heap) (locs : List Loc) (ls : Array Slot), K q0 q1 q2 q3 q4 = some r → gRep B0 D v G s H → va_S (gA B0) s.heap H locs → lv_has ls 6 [(0, .ref q0), (1, .int q1), (2, .int q2), (3, .int q3), (4, .int q4)] → W p l e ({ frames := 1, cells := 0, slots := 0, locals := 21 } : Room) s m args below meth c H locs 0 0 (MQ below (gQ B0 D v (some (.int r)) G) args s 0 0 (gA B0)) (F0 m 5 ls [])) (y0 : Nat) (y1 : Int32) (y2 : Int32) (y3 : Int32) (y4 : Int32) (y5 : Int32) (hf : jX10_sumOf_43 v G K y0 y1 y2 y3 y4 y5 = some r) (H : Heap) (locs : List Loc) (hR : gRep B0 D v G s H) (hS : va_S (gA B0) s.heap H locs) (ls : Array Slot) (hl : lv_has ls 6 [(0, .ref y0), (1, .int y1), (2, .int y2), (3, .int y3), (4, .int y4), (5, .int y5)]) : W p l e ({ frames := 1, cells := 0, slots := 0, locals := 21 } : Room) s m args below meth c H locs 0 0 (MQ below (gQ B0 D v (some (.int r)) G) args s 0 0 (gA B0)) (F0 m 43 ls []) := by
  obtain ⟨hx, hb, hr, hml, hown, hts, hlocks, hnm⟩ := id hM
  unfold jX10_sumOf_43 at hf
  refine lv_iload_n hx hb dX10_sumOf_43 rfl (lv_at hl 3 rfl) ?_
  refine lv_iload_n hx hb dX10_sumOf_44 rfl (lv_at hl 2 rfl) ?_
  refine g_if_eq (tgt := 54) hx hb dX10_sumOf_45 (by decide) hf (fun h1 hf => ?_) (fun h1 hf => ?_)
  · refine lv_iload hx hb dX10_sumOf_54 (lv_at hl 5 rfl) ?_
    exact uX10_sumOf_56 hM hK y0 y1 y2 y4 y5 y3 hf _ _ hR hS ls (lv_sub hl [0, 1, 2, 4] rfl)
  · refine lv_iload hx hb dX10_sumOf_48 (lv_at hl 5 rfl) ?_
    refine lv_i2b hx hb dX10_sumOf_50 rfl ?_
    refine lv_goto (tgt := 56) hx hb dX10_sumOf_51 (by decide) ?_
    exact uX10_sumOf_56 hM hK y0 y1 y2 y4 (y5.toInt8.toInt32) y3 hf _ _ hR hS ls (lv_sub hl [0, 1, 2, 4] rfl)
set_option maxHeartbeats 4000000 in
set_option maxRecDepth 100000 in
theorem wX10_sumOf_5 {p : Program} {l : Launch} {e : Env} {s : State} {m : MethodId} {args : Array Value} {below : List Frame} {meth : Method} {c : Code} {B0 : Nat} {D : va_G} {v : Nat → Nat} {r : Int32} {G : gH} (hM : gM p s m args meth c cX10_sumOf 6 RX10 "sumOf" (some .int)) : ∀ (n : Nat) (y0 : Nat) (y1 : Int32) (y2 : Int32) (y3 : Int32) (y4 : Int32), lX10_sumOf_5 v G n y0 y1 y2 y3 y4 = some r → ∀ (H : Heap) (locs : List Loc), gRep B0 D v G s H → va_S (gA B0) s.heap H locs → ∀ (ls : Array Slot), lv_has ls 6 [(0, .ref y0), (1, .int y1), (2, .int y2), (3, .int y3), (4, .int y4)] → W p l e ({ frames := 1, cells := 0, slots := 0, locals := 21 } : Room) s m args below meth c H locs 0 0 (MQ below (gQ B0 D v (some (.int r)) G) args s 0 0 (gA B0)) (F0 m 5 ls []) := by
  obtain ⟨hx, hb, hr, hml, hown, hts, hlocks, hnm⟩ := id hM
  intro n
  induction n with
  | zero => intro y0 y1 y2 y3 y4 hf; cases hf
  | succ n ih =>
    intro y0 y1 y2 y3 y4 hf H locs hR hS ls hl
    have hK : ∀ (K : Nat → Int32 → Int32 → Int32 → Int32 → Option Int32), K = lX10_sumOf_5 v G n → (∀ (q0 : Nat) (q1 : Int32) (q2 : Int32) (q3 : Int32) (q4 : Int32) (H : Heap) (locs : List Loc) (ls : Array Slot), K q0 q1 q2 q3 q4 = some r → gRep B0 D v G s H → va_S (gA B0) s.heap H locs → lv_has ls 6 [(0, .ref q0), (1, .int q1), (2, .int q2), (3, .int q3), (4, .int q4)] → W p l e ({ frames := 1, cells := 0, slots := 0, locals := 21 } : Room) s m args below meth c H locs 0 0 (MQ below (gQ B0 D v (some (.int r)) G) args s 0 0 (gA B0)) (F0 m 5 ls [])) := fun K hk q0 q1 q2 q3 q4 H locs ls h1 h2 h3 h4 => ih q0 q1 q2 q3 q4 (by rw [← hk]; exact h1) H locs h2 h3 ls h4
    have hf : bX10_sumOf_5 v G (lX10_sumOf_5 v G n) y0 y1 y2 y3 y4 = some r := hf
    have hK := hK _ rfl
    generalize lX10_sumOf_5 v G n = K at hf hK
    unfold bX10_sumOf_5 at hf
    refine lv_iload hx hb dX10_sumOf_5 (lv_at hl 4 rfl) ?_
    refine lv_sipush (v := (512 : Int32)) hx hb dX10_sumOf_7 (by decide) ?_
    refine g_icmp_ge (tgt := 64) hx hb dX10_sumOf_10 (by decide) hf (fun h1 hf => ?_) (fun h1 hf => ?_)
    · refine lv_iload_n hx hb dX10_sumOf_64 rfl (lv_at hl 3 rfl) ?_
      have hf := Option.some.inj hf
      subst hf
      exact g_iret hx hb hr hlocks hR hS dX10_sumOf_65 rfl rfl
    · refine lv_aload_n hx hb dX10_sumOf_13 rfl (lv_at hl 0 rfl) ?_
      refine lv_iload_n hx hb dX10_sumOf_14 rfl (lv_at hl 1 rfl) ?_
      refine lv_iload hx hb dX10_sumOf_15 (lv_at hl 4 rfl) ?_
      refine lv_iadd hx hb dX10_sumOf_17 ?_
      obtain ⟨x2, h3, hf⟩ := gb hf
      refine g_callV0 (st1 := [.int x2]) [] hx hb hml hown hts hR hS kvX10_125 (mX7_at l h3) (oX7_at h3) ⟨rfl, rfl, Nat.le_of_ble_eq_true rfl, Nat.le_of_ble_eq_true rfl⟩ hl.1 rfl (Nat.le_of_ble_eq_true rfl) dX10_sumOf_18 ⟨Nat.zero_le _, Nat.zero_le _⟩ rfl rfl (fun H locs hR hS => ?_)
      refine lv_istore (lv' := [(5, .int x2), (0, .ref y0), (1, .int y1), (2, .int y2), (3, .int y3), (4, .int y4)]) hx hb dX10_sumOf_21 hl (by decide) rfl (fun ls hl => ?_)
      refine lv_iload hx hb dX10_sumOf_23 (lv_at hl 5 rfl) ?_
      refine lv_sipush (v := (148 : Int32)) hx hb dX10_sumOf_25 (by decide) ?_
      refine g_icmp_lt (tgt := 43) hx hb dX10_sumOf_28 (by decide) hf (fun h4 hf => ?_) (fun h4 hf => ?_)
      · exact uX10_sumOf_43 hM hK y0 y1 y2 y3 y4 x2 hf _ _ hR hS ls (lv_sub hl [1, 2, 3, 4, 5, 0] rfl)
      · refine lv_iload hx hb dX10_sumOf_31 (lv_at hl 5 rfl) ?_
        refine lv_sipush (v := (156 : Int32)) hx hb dX10_sumOf_33 (by decide) ?_
        refine g_icmp_ge (tgt := 43) hx hb dX10_sumOf_36 (by decide) hf (fun h5 hf => ?_) (fun h5 hf => ?_)
        · exact uX10_sumOf_43 hM hK y0 y1 y2 y3 y4 x2 hf _ _ hR hS ls (lv_sub hl [1, 2, 3, 4, 5, 0] rfl)
        · refine lv_bipush (v := (32 : Int32)) hx hb dX10_sumOf_39 (by decide) ?_
          refine lv_istore (lv' := [(5, .int (32 : Int32)), (0, .ref y0), (1, .int y1), (2, .int y2), (3, .int y3), (4, .int y4)]) hx hb dX10_sumOf_41 hl (by decide) rfl (fun ls hl => ?_)
          exact uX10_sumOf_43 hM hK y0 y1 y2 y3 y4 (32 : Int32) hf _ _ hR hS ls (lv_sub hl [1, 2, 3, 4, 5, 0] rfl)
set_option maxHeartbeats 4000000 in
set_option maxRecDepth 100000 in
theorem mX10_sumOf (l : Launch) {B0 : Nat} {D : va_G} {v : Nat → Nat} {G : gH} {a0 : Nat} {a1 : Int32} {a2 : Int32} {r : Int32} (hf : fX10_sumOf v G a0 a1 a2 = some r) : Met l yX10_sumOf (.code yX10_sumOf cX10_sumOf 6 (some .int) :: gW) ({ frames := 1, cells := 0, slots := 0, locals := 21 } : Room) (gPre B0 D v [.ref a0, .int a1, .int a2] G) (gQ B0 D v (some (.int r)) G) 0 0 (gA B0) := by
  refine g_met (lv := [(0, .ref a0), (1, .int a1), (2, .int a2)]) (by decide) (Nat.le_of_ble_eq_true rfl) rfl ?_
  intro p e s m below meth c hM hR ls hl
  obtain ⟨hx, hb, hr, hml, hown, hts, hlocks, hnm⟩ := id hM
  have hS : va_S (gA B0) s.heap s.heap [] := va_S.rf
  unfold fX10_sumOf at hf
  refine lv_iconst (v := (0 : Int32)) hx hb dX10_sumOf_0 (by decide) ?_
  refine lv_istore_n (lv' := [(3, .int (0 : Int32)), (0, .ref a0), (1, .int a1), (2, .int a2)]) hx hb dX10_sumOf_1 rfl hl (by decide) rfl (fun ls hl => ?_)
  refine lv_iconst (v := (0 : Int32)) hx hb dX10_sumOf_2 (by decide) ?_
  refine lv_istore (lv' := [(4, .int (0 : Int32)), (3, .int (0 : Int32)), (0, .ref a0), (1, .int a1), (2, .int a2)]) hx hb dX10_sumOf_3 hl (by decide) rfl (fun ls hl => ?_)
  exact wX10_sumOf_5 hM gFu a0 a1 a2 (0 : Int32) (0 : Int32) hf _ _ hR hS ls (lv_sub hl [2, 3, 4, 1, 0] rfl)
set_option maxHeartbeats 4000000 in
set_option maxRecDepth 100000 in
theorem uX6_isSumRight_50 {p : Program} {l : Launch} {e : Env} {s : State} {m : MethodId} {args : Array Value} {below : List Frame} {meth : Method} {c : Code} {B0 : Nat} {D : va_G} {v : Nat → Nat} {r : Int32 × gH} (hM : gM p s m args meth c cX6_isSumRight 2 RX6 "isSumRight" (some .boolean)) (G : gH) (hf : jX6_isSumRight_50 v G = some r) (H : Heap) (locs : List Loc) (hR : gRep B0 D v G s H) (hS : va_S (gA B0) s.heap H locs) (ls : Array Slot) (hl : lv_has ls 2 []) : W p l e ({ frames := 2, cells := 0, slots := 0, locals := 46 } : Room) s m args below meth c H locs 0 0 (MQ below (gQ B0 D v (some (.int r.1)) r.2) args s 0 0 (gA B0)) (F0 m 50 ls []) := by
  obtain ⟨hx, hb, hr, hml, hown, hts, hlocks, hnm⟩ := id hM
  unfold jX6_isSumRight_50 at hf
  refine lv_iconst (v := (1 : Int32)) hx hb dX6_isSumRight_50 (by decide) ?_
  refine lv_goto (tgt := 55) hx hb dX6_isSumRight_51 (by decide) ?_
  refine g_zz hf (fun h1 _ hf => ?_)
  have hf := Option.some.inj hf
  subst hf
  exact g_zret hx hb hr hlocks hR hS dX6_isSumRight_55 h1 rfl rfl
theorem oX6_isSumRight {v : Nat → Nat} {G : gH} {a0 : Nat} {a1 : Int32} {r : Int32 × gH} (h : fX6_isSumRight v G a0 a1 = some r) : gOb G a0 6 = some () := by
  unfold fX6_isSumRight at h
  obtain ⟨u, hu, -⟩ := gb h
  exact hu
set_option maxHeartbeats 4000000 in
set_option maxRecDepth 100000 in
theorem mX6_isSumRight (l : Launch) {B0 : Nat} {D : va_G} {v : Nat → Nat} {G : gH} {a0 : Nat} {a1 : Int32} {r : Int32 × gH} (hf : fX6_isSumRight v G a0 a1 = some r) : Met l yX6_isSumRight (.code yX6_isSumRight cX6_isSumRight 2 (some .boolean) :: gW) ({ frames := 2, cells := 0, slots := 0, locals := 46 } : Room) (gPre B0 D v [.ref a0, .int a1] G) (gQ B0 D v (some (.int r.1)) r.2) 0 0 (gA B0) := by
  refine g_met (lv := [(0, .ref a0), (1, .int a1)]) (by decide) (Nat.le_of_ble_eq_true rfl) rfl ?_
  intro p e s m below meth c hM hR ls hl
  obtain ⟨hx, hb, hr, hml, hown, hts, hlocks, hnm⟩ := id hM
  have hS : va_S (gA B0) s.heap s.heap [] := va_S.rf
  unfold fX6_isSumRight at hf
  obtain ⟨-, -, hf⟩ := gb hf
  refine lv_aload_n hx hb dX6_isSumRight_0 rfl (lv_at hl 0 rfl) ?_
  refine lv_iload_n hx hb dX6_isSumRight_1 rfl (lv_at hl 1 rfl) ?_
  refine lv_sipush (v := (148 : Int32)) hx hb dX6_isSumRight_2 (by decide) ?_
  refine lv_iadd hx hb dX6_isSumRight_5 ?_
  refine lv_bipush (v := (8 : Int32)) hx hb dX6_isSumRight_6 (by decide) ?_
  obtain ⟨x1, h2, hf⟩ := gb hf
  refine g_callV0 (st1 := [.int x1.1]) [] hx hb hml hown hts hR hS kvX6_34 (mX6_takeOctal l h2) (oX6_takeOctal h2) ⟨rfl, rfl, Nat.le_of_ble_eq_true rfl, Nat.le_of_ble_eq_true rfl⟩ hl.1 rfl (Nat.le_of_ble_eq_true rfl) dX6_isSumRight_8 ⟨Nat.zero_le _, Nat.zero_le _⟩ rfl rfl (fun H locs hR hS => ?_)
  refine g_if_eq (tgt := 54) hx hb dX6_isSumRight_11 (by decide) hf (fun h3 hf => ?_) (fun h3 hf => ?_)
  · refine lv_iconst (v := (0 : Int32)) hx hb dX6_isSumRight_54 (by decide) ?_
    refine g_zz hf (fun h4 _ hf => ?_)
    have hf := Option.some.inj hf
    subst hf
    exact g_zret hx hb hr hlocks hR hS dX6_isSumRight_55 h4 rfl rfl
  · refine lv_aload_n hx hb dX6_isSumRight_14 rfl (lv_at hl 0 rfl) ?_
    refine g_getJ hx hb hts hown hR lkX6_9 dX6_isSumRight_15 hf (fun x5 hf => ?_)
    refine lv_aload_n hx hb dX6_isSumRight_18 rfl (lv_at hl 0 rfl) ?_
    refine g_getR hx hb hts hown hR lkX6_30 dX6_isSumRight_19 hf (fun x6 hf => ?_)
    refine lv_iload_n hx hb dX6_isSumRight_22 rfl (lv_at hl 1 rfl) ?_
    refine lv_iconst (v := (0 : Int32)) hx hb dX6_isSumRight_23 (by decide) ?_
    obtain ⟨x7, h8, hf⟩ := gb hf
    refine g_callS0 (st1 := [.int x7, .long x5]) [.long x5] hx hb hml hown hts hR hS ksX6_38 (mX10_sumOf l h8) ⟨rfl, rfl, Nat.le_of_ble_eq_true rfl, Nat.le_of_ble_eq_true rfl⟩ hl.1 rfl (Nat.le_of_ble_eq_true rfl) dX6_isSumRight_24 ⟨Nat.zero_le _, Nat.zero_le _⟩ rfl rfl (fun H locs hR hS => ?_)
    refine lv_i2l hx hb dX6_isSumRight_27 rfl ?_
    refine g_lif_eq (tgt := 50) hx hb dX6_isSumRight_28 dX6_isSumRight_29 (by decide) hf (fun h9 hf => ?_) (fun h9 hf => ?_)
    · exact uX6_isSumRight_50 hM x1.2 hf _ _ hR hS ls (lv_sub hl [] rfl)
    · refine lv_aload_n hx hb dX6_isSumRight_32 rfl (lv_at hl 0 rfl) ?_
      refine g_getJ hx hb hts hown hR lkX6_9 dX6_isSumRight_33 hf (fun x10 hf => ?_)
      refine lv_aload_n hx hb dX6_isSumRight_36 rfl (lv_at hl 0 rfl) ?_
      refine g_getR hx hb hts hown hR lkX6_30 dX6_isSumRight_37 hf (fun x11 hf => ?_)
      refine lv_iload_n hx hb dX6_isSumRight_40 rfl (lv_at hl 1 rfl) ?_
      refine lv_iconst (v := (1 : Int32)) hx hb dX6_isSumRight_41 (by decide) ?_
      obtain ⟨x12, h13, hf⟩ := gb hf
      refine g_callS0 (st1 := [.int x12, .long x10]) [.long x10] hx hb hml hown hts hR hS ksX6_38 (mX10_sumOf l h13) ⟨rfl, rfl, Nat.le_of_ble_eq_true rfl, Nat.le_of_ble_eq_true rfl⟩ hl.1 rfl (Nat.le_of_ble_eq_true rfl) dX6_isSumRight_42 ⟨Nat.zero_le _, Nat.zero_le _⟩ rfl rfl (fun H locs hR hS => ?_)
      refine lv_i2l hx hb dX6_isSumRight_45 rfl ?_
      refine g_lif_ne (tgt := 54) hx hb dX6_isSumRight_46 dX6_isSumRight_47 (by decide) hf (fun h14 hf => ?_) (fun h14 hf => ?_)
      · refine lv_iconst (v := (0 : Int32)) hx hb dX6_isSumRight_54 (by decide) ?_
        refine g_zz hf (fun h15 _ hf => ?_)
        have hf := Option.some.inj hf
        subst hf
        exact g_zret hx hb hr hlocks hR hS dX6_isSumRight_55 h15 rfl rfl
      · exact uX6_isSumRight_50 hM x1.2 hf _ _ hR hS ls (lv_sub hl [] rfl)
set_option maxHeartbeats 4000000 in
set_option maxRecDepth 100000 in
theorem uX6_takeBy256_70 {p : Program} {l : Launch} {e : Env} {s : State} {m : MethodId} {args : Array Value} {below : List Frame} {meth : Method} {c : Code} {B0 : Nat} {D : va_G} {v : Nat → Nat} {r : Int32 × gH} {K : gH → Nat → Int32 → Int32 → Int32 → Int32 → Option (Int32 × gH)} (hM : gM p s m args meth c cX6_takeBy256 7 RX6 "takeBy256" (some .boolean)) (hK : ∀ (G : gH) (q0 : Nat) (q3 : Int32) (q4 : Int32) (q5 : Int32) (q6 : Int32) (H : Heap) (locs : List Loc) (ls : Array Slot), K G q0 q3 q4 q5 q6 = some r → gRep B0 D v G s H → va_S (gA B0) s.heap H locs → lv_has ls 7 [(0, .ref q0), (3, .int q3), (4, .int q4), (5, .int q5), (6, .int q6)] → W p l e ({ frames := 1, cells := 0, slots := 0, locals := 21 } : Room) s m args below meth c H locs 0 0 (MQ below (gQ B0 D v (some (.int r.1)) r.2) args s 0 0 (gA B0)) (F0 m 43 ls [])) (G : gH) (y0 : Nat) (y3 : Int32) (y4 : Int32) (y5 : Int32) (y6 : Int32) (z0 : Int32) (z1 : Int32) (hf : jX6_takeBy256_70 v K G y0 y3 y4 y5 y6 z0 z1 = some r) (H : Heap) (locs : List Loc) (hR : gRep B0 D v G s H) (hS : va_S (gA B0) s.heap H locs) (ls : Array Slot) (hl : lv_has ls 7 [(0, .ref y0), (3, .int y3), (4, .int y4), (5, .int y5), (6, .int y6)]) : W p l e ({ frames := 1, cells := 0, slots := 0, locals := 21 } : Room) s m args below meth c H locs 0 0 (MQ below (gQ B0 D v (some (.int r.1)) r.2) args s 0 0 (gA B0)) (F0 m 70 ls [.int z0, .int z1]) := by
  obtain ⟨hx, hb, hr, hml, hown, hts, hlocks, hnm⟩ := id hM
  unfold jX6_takeBy256_70 at hf
  refine g_icmp_eq (tgt := 75) hx hb dX6_takeBy256_70 (by decide) hf (fun h1 hf => ?_) (fun h1 hf => ?_)
  · refine g_iinc (k := 4) (n' := (1 : Int32)) (lv2 := [(0, .ref y0), (3, .int y3), (4, .int y4), (5, .int y5)]) hx hb dX6_takeBy256_75 hl rfl (by decide) (by decide) rfl hf (fun x2 ls hf hl => ?_)
    refine lv_goto (tgt := 43) hx hb dX6_takeBy256_78 (by decide) ?_
    exact hK G y0 y3 y4 y5 x2 _ _ ls hf hR hS (lv_sub hl [1, 2, 3, 4, 0] rfl)
  · refine lv_iconst (v := (0 : Int32)) hx hb dX6_takeBy256_73 (by decide) ?_
    refine g_zz hf (fun h3 _ hf => ?_)
    have hf := Option.some.inj hf
    subst hf
    exact g_zret hx hb hr hlocks hR hS dX6_takeBy256_74 h3 rfl rfl
set_option maxHeartbeats 4000000 in
set_option maxRecDepth 100000 in
theorem uX6_takeBy256_149 {p : Program} {l : Launch} {e : Env} {s : State} {m : MethodId} {args : Array Value} {below : List Frame} {meth : Method} {c : Code} {B0 : Nat} {D : va_G} {v : Nat → Nat} {r : Int32 × gH} (hM : gM p s m args meth c cX6_takeBy256 7 RX6 "takeBy256" (some .boolean)) (G : gH) (y3 : Int32) (z0 : Int32) (hf : jX6_takeBy256_149 v G y3 z0 = some r) (H : Heap) (locs : List Loc) (hR : gRep B0 D v G s H) (hS : va_S (gA B0) s.heap H locs) (ls : Array Slot) (hl : lv_has ls 7 [(3, .int y3)]) : W p l e ({ frames := 1, cells := 0, slots := 0, locals := 21 } : Room) s m args below meth c H locs 0 0 (MQ below (gQ B0 D v (some (.int r.1)) r.2) args s 0 0 (gA B0)) (F0 m 149 ls [.int z0]) := by
  obtain ⟨hx, hb, hr, hml, hown, hts, hlocks, hnm⟩ := id hM
  unfold jX6_takeBy256_149 at hf
  refine lv_iload_n hx hb dX6_takeBy256_149 rfl (lv_at hl 0 rfl) ?_
  refine g_icmp_ne (tgt := 157) hx hb dX6_takeBy256_150 (by decide) hf (fun h1 hf => ?_) (fun h1 hf => ?_)
  · refine lv_iconst (v := (0 : Int32)) hx hb dX6_takeBy256_157 (by decide) ?_
    refine g_zz hf (fun h2 _ hf => ?_)
    have hf := Option.some.inj hf
    subst hf
    exact g_zret hx hb hr hlocks hR hS dX6_takeBy256_158 h2 rfl rfl
  · refine lv_iconst (v := (1 : Int32)) hx hb dX6_takeBy256_153 (by decide) ?_
    refine lv_goto (tgt := 158) hx hb dX6_takeBy256_154 (by decide) ?_
    refine g_zz hf (fun h3 _ hf => ?_)
    have hf := Option.some.inj hf
    subst hf
    exact g_zret hx hb hr hlocks hR hS dX6_takeBy256_158 h3 rfl rfl
set_option maxHeartbeats 4000000 in
set_option maxRecDepth 100000 in
theorem wX6_takeBy256_100 {p : Program} {l : Launch} {e : Env} {s : State} {m : MethodId} {args : Array Value} {below : List Frame} {meth : Method} {c : Code} {B0 : Nat} {D : va_G} {v : Nat → Nat} {r : Int32 × gH} (hM : gM p s m args meth c cX6_takeBy256 7 RX6 "takeBy256" (some .boolean)) : ∀ (n : Nat) (G : gH) (y0 : Nat) (y3 : Int32) (y4 : Int32) (y6 : Int32), lX6_takeBy256_100 v n G y0 y3 y4 y6 = some r → ∀ (H : Heap) (locs : List Loc), gRep B0 D v G s H → va_S (gA B0) s.heap H locs → ∀ (ls : Array Slot), lv_has ls 7 [(0, .ref y0), (3, .int y3), (4, .int y4), (6, .int y6)] → W p l e ({ frames := 1, cells := 0, slots := 0, locals := 21 } : Room) s m args below meth c H locs 0 0 (MQ below (gQ B0 D v (some (.int r.1)) r.2) args s 0 0 (gA B0)) (F0 m 100 ls []) := by
  obtain ⟨hx, hb, hr, hml, hown, hts, hlocks, hnm⟩ := id hM
  intro n
  induction n with
  | zero => intro G y0 y3 y4 y6 hf; cases hf
  | succ n ih =>
    intro G y0 y3 y4 y6 hf H locs hR hS ls hl
    have hK : ∀ (K : gH → Nat → Int32 → Int32 → Int32 → Option (Int32 × gH)), K = lX6_takeBy256_100 v n → (∀ (G : gH) (q0 : Nat) (q3 : Int32) (q4 : Int32) (q6 : Int32) (H : Heap) (locs : List Loc) (ls : Array Slot), K G q0 q3 q4 q6 = some r → gRep B0 D v G s H → va_S (gA B0) s.heap H locs → lv_has ls 7 [(0, .ref q0), (3, .int q3), (4, .int q4), (6, .int q6)] → W p l e ({ frames := 1, cells := 0, slots := 0, locals := 21 } : Room) s m args below meth c H locs 0 0 (MQ below (gQ B0 D v (some (.int r.1)) r.2) args s 0 0 (gA B0)) (F0 m 100 ls [])) := fun K hk G q0 q3 q4 q6 H locs ls h1 h2 h3 h4 => ih G q0 q3 q4 q6 (by rw [← hk]; exact h1) H locs h2 h3 ls h4
    have hf : bX6_takeBy256_100 v (lX6_takeBy256_100 v n) G y0 y3 y4 y6 = some r := hf
    have hK := hK _ rfl
    generalize lX6_takeBy256_100 v n = K at hf hK
    unfold bX6_takeBy256_100 at hf
    refine lv_iload hx hb dX6_takeBy256_100 (lv_at hl 3 rfl) ?_
    refine lv_iload hx hb dX6_takeBy256_102 (lv_at hl 2 rfl) ?_
    refine g_icmp_ge (tgt := 135) hx hb dX6_takeBy256_104 (by decide) hf (fun h1 hf => ?_) (fun h1 hf => ?_)
    · refine lv_aload_n hx hb dX6_takeBy256_135 rfl (lv_at hl 0 rfl) ?_
      refine g_getJ hx hb hts hown hR lkX6_9 dX6_takeBy256_136 hf (fun x2 hf => ?_)
      refine lv_lconst (v := (0 : Int64)) hx hb dX6_takeBy256_139 (by decide) ?_
      refine g_lif_ge (tgt := 148) hx hb dX6_takeBy256_140 dX6_takeBy256_141 (by decide) hf (fun h3 hf => ?_) (fun h3 hf => ?_)
      · refine lv_iconst (v := (0 : Int32)) hx hb dX6_takeBy256_148 (by decide) ?_
        exact uX6_takeBy256_149 hM G y3 (0 : Int32) hf _ _ hR hS ls (lv_sub hl [1] rfl)
      · refine lv_iconst (v := (1 : Int32)) hx hb dX6_takeBy256_144 (by decide) ?_
        refine lv_goto (tgt := 149) hx hb dX6_takeBy256_145 (by decide) ?_
        exact uX6_takeBy256_149 hM G y3 (1 : Int32) hf _ _ hR hS ls (lv_sub hl [1] rfl)
    · refine lv_aload_n hx hb dX6_takeBy256_107 rfl (lv_at hl 0 rfl) ?_
      refine lv_aload_n hx hb dX6_takeBy256_108 rfl (lv_at hl 0 rfl) ?_
      refine g_getJ hx hb hts hown hR lkX6_9 dX6_takeBy256_109 hf (fun x4 hf => ?_)
      refine lv_bipush (v := (8 : Int32)) hx hb dX6_takeBy256_112 (by decide) ?_
      refine lv_lshl hx hb dX6_takeBy256_114 rfl ?_
      refine lv_aload_n hx hb dX6_takeBy256_115 rfl (lv_at hl 0 rfl) ?_
      refine g_getR hx hb hts hown hR lkX6_30 dX6_takeBy256_116 hf (fun x5 hf => ?_)
      refine lv_iload hx hb dX6_takeBy256_119 (lv_at hl 3 rfl) ?_
      obtain ⟨x6, h7, hf⟩ := gb hf
      refine g_callV0 (st1 := [.int x6, .long (x4 <<< ((8 : Int32).toInt64 &&& 63)), .ref y0]) [.long (x4 <<< ((8 : Int32).toInt64 &&& 63)), .ref y0] hx hb hml hown hts hR hS kvX6_56 (mX7_at l h7) (oX7_at h7) ⟨rfl, rfl, Nat.le_of_ble_eq_true rfl, Nat.le_of_ble_eq_true rfl⟩ hl.1 rfl (Nat.le_of_ble_eq_true rfl) dX6_takeBy256_121 ⟨Nat.zero_le _, Nat.zero_le _⟩ rfl rfl (fun H locs hR hS => ?_)
      refine lv_i2l hx hb dX6_takeBy256_124 rfl ?_
      refine lv_lor hx hb dX6_takeBy256_125 ?_
      refine g_put hx hb hts hown hR hS lpX6_9 (Or.inl rfl) rfl rfl dX6_takeBy256_126 hf (fun G8 H locs hf hR hS => ?_)
      refine g_iinc (k := 3) (n' := (1 : Int32)) (lv2 := [(0, .ref y0), (3, .int y3), (4, .int y4)]) hx hb dX6_takeBy256_129 hl rfl (by decide) (by decide) rfl hf (fun x9 ls hf hl => ?_)
      refine lv_goto (tgt := 100) hx hb dX6_takeBy256_132 (by decide) ?_
      exact hK G8 y0 y3 y4 x9 _ _ ls hf hR hS (lv_sub hl [1, 2, 3, 0] rfl)
set_option maxHeartbeats 4000000 in
set_option maxRecDepth 100000 in
theorem uX6_takeBy256_93 {p : Program} {l : Launch} {e : Env} {s : State} {m : MethodId} {args : Array Value} {below : List Frame} {meth : Method} {c : Code} {B0 : Nat} {D : va_G} {v : Nat → Nat} {r : Int32 × gH} (hM : gM p s m args meth c cX6_takeBy256 7 RX6 "takeBy256" (some .boolean)) (G : gH) (y0 : Nat) (y3 : Int32) (y4 : Int32) (y5 : Int32) (z0 : Int64) (z1 : Nat) (hf : jX6_takeBy256_93 v G y0 y3 y4 y5 z0 z1 = some r) (H : Heap) (locs : List Loc) (hR : gRep B0 D v G s H) (hS : va_S (gA B0) s.heap H locs) (ls : Array Slot) (hl : lv_has ls 7 [(0, .ref y0), (3, .int y3), (4, .int y4), (5, .int y5)]) : W p l e ({ frames := 1, cells := 0, slots := 0, locals := 21 } : Room) s m args below meth c H locs 0 0 (MQ below (gQ B0 D v (some (.int r.1)) r.2) args s 0 0 (gA B0)) (F0 m 93 ls [.long z0, .ref z1]) := by
  obtain ⟨hx, hb, hr, hml, hown, hts, hlocks, hnm⟩ := id hM
  unfold jX6_takeBy256_93 at hf
  refine g_put hx hb hts hown hR hS lpX6_9 (Or.inl rfl) rfl rfl dX6_takeBy256_93 hf (fun G1 H locs hf hR hS => ?_)
  refine lv_iload hx hb dX6_takeBy256_96 (lv_at hl 3 rfl) ?_
  refine lv_istore (lv' := [(6, .int y5), (0, .ref y0), (3, .int y3), (4, .int y4), (5, .int y5)]) hx hb dX6_takeBy256_98 hl (by decide) rfl (fun ls hl => ?_)
  exact wX6_takeBy256_100 hM gFu G1 y0 y3 y4 y5 hf _ _ hR hS ls (lv_sub hl [1, 2, 3, 0] rfl)
set_option maxHeartbeats 4000000 in
set_option maxRecDepth 100000 in
theorem wX6_takeBy256_43 {p : Program} {l : Launch} {e : Env} {s : State} {m : MethodId} {args : Array Value} {below : List Frame} {meth : Method} {c : Code} {B0 : Nat} {D : va_G} {v : Nat → Nat} {r : Int32 × gH} (hM : gM p s m args meth c cX6_takeBy256 7 RX6 "takeBy256" (some .boolean)) : ∀ (n : Nat) (G : gH) (y0 : Nat) (y3 : Int32) (y4 : Int32) (y5 : Int32) (y6 : Int32), lX6_takeBy256_43 v n G y0 y3 y4 y5 y6 = some r → ∀ (H : Heap) (locs : List Loc), gRep B0 D v G s H → va_S (gA B0) s.heap H locs → ∀ (ls : Array Slot), lv_has ls 7 [(0, .ref y0), (3, .int y3), (4, .int y4), (5, .int y5), (6, .int y6)] → W p l e ({ frames := 1, cells := 0, slots := 0, locals := 21 } : Room) s m args below meth c H locs 0 0 (MQ below (gQ B0 D v (some (.int r.1)) r.2) args s 0 0 (gA B0)) (F0 m 43 ls []) := by
  obtain ⟨hx, hb, hr, hml, hown, hts, hlocks, hnm⟩ := id hM
  intro n
  induction n with
  | zero => intro G y0 y3 y4 y5 y6 hf; cases hf
  | succ n ih =>
    intro G y0 y3 y4 y5 y6 hf H locs hR hS ls hl
    have hK : ∀ (K : gH → Nat → Int32 → Int32 → Int32 → Int32 → Option (Int32 × gH)), K = lX6_takeBy256_43 v n → (∀ (G : gH) (q0 : Nat) (q3 : Int32) (q4 : Int32) (q5 : Int32) (q6 : Int32) (H : Heap) (locs : List Loc) (ls : Array Slot), K G q0 q3 q4 q5 q6 = some r → gRep B0 D v G s H → va_S (gA B0) s.heap H locs → lv_has ls 7 [(0, .ref q0), (3, .int q3), (4, .int q4), (5, .int q5), (6, .int q6)] → W p l e ({ frames := 1, cells := 0, slots := 0, locals := 21 } : Room) s m args below meth c H locs 0 0 (MQ below (gQ B0 D v (some (.int r.1)) r.2) args s 0 0 (gA B0)) (F0 m 43 ls [])) := fun K hk G q0 q3 q4 q5 q6 H locs ls h1 h2 h3 h4 => ih G q0 q3 q4 q5 q6 (by rw [← hk]; exact h1) H locs h2 h3 ls h4
    have hf : bX6_takeBy256_43 v (lX6_takeBy256_43 v n) G y0 y3 y4 y5 y6 = some r := hf
    have hK := hK _ rfl
    generalize lX6_takeBy256_43 v n = K at hf hK
    unfold bX6_takeBy256_43 at hf
    refine lv_iload hx hb dX6_takeBy256_43 (lv_at hl 4 rfl) ?_
    refine lv_iload hx hb dX6_takeBy256_45 (lv_at hl 3 rfl) ?_
    refine g_icmp_ge (tgt := 81) hx hb dX6_takeBy256_47 (by decide) hf (fun h1 hf => ?_) (fun h1 hf => ?_)
    · refine lv_aload_n hx hb dX6_takeBy256_81 rfl (lv_at hl 0 rfl) ?_
      refine lv_iload_n hx hb dX6_takeBy256_82 rfl (lv_at hl 1 rfl) ?_
      refine g_if_eq (tgt := 92) hx hb dX6_takeBy256_83 (by decide) hf (fun h2 hf => ?_) (fun h2 hf => ?_)
      · refine lv_lconst (v := (0 : Int64)) hx hb dX6_takeBy256_92 (by decide) ?_
        exact uX6_takeBy256_93 hM G y0 y3 y4 y5 (0 : Int64) y0 hf _ _ hR hS ls (lv_sub hl [0, 1, 2, 3] rfl)
      · refine lv_ldc2 (v := (-1 : Int64)) hx hb hown (hts _ kcX6_75) dX6_takeBy256_86 ?_
        refine lv_goto (tgt := 93) hx hb dX6_takeBy256_89 (by decide) ?_
        exact uX6_takeBy256_93 hM G y0 y3 y4 y5 (-1 : Int64) y0 hf _ _ hR hS ls (lv_sub hl [0, 1, 2, 3] rfl)
    · refine lv_aload_n hx hb dX6_takeBy256_50 rfl (lv_at hl 0 rfl) ?_
      refine g_getR hx hb hts hown hR lkX6_30 dX6_takeBy256_51 hf (fun x3 hf => ?_)
      refine lv_iload hx hb dX6_takeBy256_54 (lv_at hl 4 rfl) ?_
      obtain ⟨x4, h5, hf⟩ := gb hf
      refine g_callV0 (st1 := [.int x4]) [] hx hb hml hown hts hR hS kvX6_56 (mX7_at l h5) (oX7_at h5) ⟨rfl, rfl, Nat.le_of_ble_eq_true rfl, Nat.le_of_ble_eq_true rfl⟩ hl.1 rfl (Nat.le_of_ble_eq_true rfl) dX6_takeBy256_56 ⟨Nat.zero_le _, Nat.zero_le _⟩ rfl rfl (fun H locs hR hS => ?_)
      refine lv_iload_n hx hb dX6_takeBy256_59 rfl (lv_at hl 1 rfl) ?_
      refine g_if_eq (tgt := 69) hx hb dX6_takeBy256_60 (by decide) hf (fun h6 hf => ?_) (fun h6 hf => ?_)
      · refine lv_iconst (v := (0 : Int32)) hx hb dX6_takeBy256_69 (by decide) ?_
        exact uX6_takeBy256_70 hM hK G y0 y3 y4 y5 y6 (0 : Int32) x4 hf _ _ hR hS ls (lv_sub hl [0, 1, 2, 3, 4] rfl)
      · refine lv_sipush (v := (255 : Int32)) hx hb dX6_takeBy256_63 (by decide) ?_
        refine lv_goto (tgt := 70) hx hb dX6_takeBy256_66 (by decide) ?_
        exact uX6_takeBy256_70 hM hK G y0 y3 y4 y5 y6 (255 : Int32) x4 hf _ _ hR hS ls (lv_sub hl [0, 1, 2, 3, 4] rfl)
set_option maxHeartbeats 4000000 in
set_option maxRecDepth 100000 in
theorem uX6_takeBy256_19 {p : Program} {l : Launch} {e : Env} {s : State} {m : MethodId} {args : Array Value} {below : List Frame} {meth : Method} {c : Code} {B0 : Nat} {D : va_G} {v : Nat → Nat} {r : Int32 × gH} (hM : gM p s m args meth c cX6_takeBy256 7 RX6 "takeBy256" (some .boolean)) (G : gH) (y0 : Nat) (y1 : Int32) (y2 : Int32) (z0 : Int32) (hf : jX6_takeBy256_19 v G y0 y1 y2 z0 = some r) (H : Heap) (locs : List Loc) (hR : gRep B0 D v G s H) (hS : va_S (gA B0) s.heap H locs) (ls : Array Slot) (hl : lv_has ls 7 [(0, .ref y0), (1, .int y1), (2, .int y2)]) : W p l e ({ frames := 1, cells := 0, slots := 0, locals := 21 } : Room) s m args below meth c H locs 0 0 (MQ below (gQ B0 D v (some (.int r.1)) r.2) args s 0 0 (gA B0)) (F0 m 19 ls [.int z0]) := by
  obtain ⟨hx, hb, hr, hml, hown, hts, hlocks, hnm⟩ := id hM
  unfold jX6_takeBy256_19 at hf
  refine lv_istore_n (lv' := [(3, .int z0), (0, .ref y0), (1, .int y1), (2, .int y2)]) hx hb dX6_takeBy256_19 rfl hl (by decide) rfl (fun ls hl => ?_)
  refine lv_iload_n hx hb dX6_takeBy256_20 rfl (lv_at hl 2 rfl) ?_
  refine lv_iload_n hx hb dX6_takeBy256_21 rfl (lv_at hl 3 rfl) ?_
  refine lv_iadd hx hb dX6_takeBy256_22 ?_
  refine g_nmI hf (fun x1 hf => ?_)
  refine lv_istore (lv' := [(4, .int x1), (3, .int z0), (0, .ref y0), (1, .int y1), (2, .int y2)]) hx hb dX6_takeBy256_23 hl (by decide) rfl (fun ls hl => ?_)
  refine lv_iload_n hx hb dX6_takeBy256_25 rfl (lv_at hl 3 rfl) ?_
  refine lv_iconst (v := (1 : Int32)) hx hb dX6_takeBy256_26 (by decide) ?_
  refine lv_iadd hx hb dX6_takeBy256_27 ?_
  refine lv_iload hx hb dX6_takeBy256_28 (lv_at hl 0 rfl) ?_
  refine lv_bipush (v := (8 : Int32)) hx hb dX6_takeBy256_30 (by decide) ?_
  refine lv_isub hx hb dX6_takeBy256_32 ?_
  refine va_mmax hx hb (hml.trans hl.1.symm) hown (hts _ mlX6_69) (hts _ mb_max_s) (hts _ mb_i) (hts _ mb_max_c) (Nat.le_of_ble_eq_true rfl) (Nat.le_of_ble_eq_true rfl) (Nat.zero_le _) (Nat.zero_le _) dX6_takeBy256_33 ?_
  refine g_nmI hf (fun x2 hf => ?_)
  refine lv_istore (lv' := [(5, .int x2), (4, .int x1), (3, .int z0), (0, .ref y0), (1, .int y1), (2, .int y2)]) hx hb dX6_takeBy256_36 hl (by decide) rfl (fun ls hl => ?_)
  refine lv_iload_n hx hb dX6_takeBy256_38 rfl (lv_at hl 4 rfl) ?_
  refine lv_iconst (v := (1 : Int32)) hx hb dX6_takeBy256_39 (by decide) ?_
  refine lv_iadd hx hb dX6_takeBy256_40 ?_
  refine g_nmI hf (fun x3 hf => ?_)
  refine lv_istore (lv' := [(6, .int x3), (5, .int x2), (4, .int x1), (3, .int z0), (0, .ref y0), (1, .int y1), (2, .int y2)]) hx hb dX6_takeBy256_41 hl (by decide) rfl (fun ls hl => ?_)
  exact wX6_takeBy256_43 hM gFu G y0 z0 x1 x2 x3 hf _ _ hR hS ls (lv_sub hl [4, 3, 2, 1, 0] rfl)
theorem oX6_takeBy256 {v : Nat → Nat} {G : gH} {a0 : Nat} {a1 : Int32} {a2 : Int32} {r : Int32 × gH} (h : fX6_takeBy256 v G a0 a1 a2 = some r) : gOb G a0 6 = some () := by
  unfold fX6_takeBy256 at h
  obtain ⟨u, hu, -⟩ := gb h
  exact hu
set_option maxHeartbeats 4000000 in
set_option maxRecDepth 100000 in
theorem mX6_takeBy256 (l : Launch) {B0 : Nat} {D : va_G} {v : Nat → Nat} {G : gH} {a0 : Nat} {a1 : Int32} {a2 : Int32} {r : Int32 × gH} (hf : fX6_takeBy256 v G a0 a1 a2 = some r) : Met l yX6_takeBy256 (.code yX6_takeBy256 cX6_takeBy256 7 (some .boolean) :: gW) ({ frames := 1, cells := 0, slots := 0, locals := 21 } : Room) (gPre B0 D v [.ref a0, .int a1, .int a2] G) (gQ B0 D v (some (.int r.1)) r.2) 0 0 (gA B0) := by
  refine g_met (lv := [(0, .ref a0), (1, .int a1), (2, .int a2)]) (by decide) (Nat.le_of_ble_eq_true rfl) rfl ?_
  intro p e s m below meth c hM hR ls hl
  obtain ⟨hx, hb, hr, hml, hown, hts, hlocks, hnm⟩ := id hM
  have hS : va_S (gA B0) s.heap s.heap [] := va_S.rf
  unfold fX6_takeBy256 at hf
  obtain ⟨-, -, hf⟩ := gb hf
  refine lv_aload_n hx hb dX6_takeBy256_0 rfl (lv_at hl 0 rfl) ?_
  refine g_getR hx hb hts hown hR lkX6_30 dX6_takeBy256_1 hf (fun x1 hf => ?_)
  refine lv_iload_n hx hb dX6_takeBy256_4 rfl (lv_at hl 1 rfl) ?_
  obtain ⟨x2, h3, hf⟩ := gb hf
  refine g_callV0 (st1 := [.int x2]) [] hx hb hml hown hts hR hS kvX6_56 (mX7_at l h3) (oX7_at h3) ⟨rfl, rfl, Nat.le_of_ble_eq_true rfl, Nat.le_of_ble_eq_true rfl⟩ hl.1 rfl (Nat.le_of_ble_eq_true rfl) dX6_takeBy256_5 ⟨Nat.zero_le _, Nat.zero_le _⟩ rfl rfl (fun H locs hR hS => ?_)
  refine lv_sipush (v := (255 : Int32)) hx hb dX6_takeBy256_8 (by decide) ?_
  refine g_icmp_ne (tgt := 18) hx hb dX6_takeBy256_11 (by decide) hf (fun h4 hf => ?_) (fun h4 hf => ?_)
  · refine lv_iconst (v := (0 : Int32)) hx hb dX6_takeBy256_18 (by decide) ?_
    exact uX6_takeBy256_19 hM G a0 a1 a2 (0 : Int32) hf _ _ hR hS ls (lv_sub hl [0, 1, 2] rfl)
  · refine lv_iconst (v := (1 : Int32)) hx hb dX6_takeBy256_14 (by decide) ?_
    refine lv_goto (tgt := 19) hx hb dX6_takeBy256_15 (by decide) ?_
    exact uX6_takeBy256_19 hM G a0 a1 a2 (1 : Int32) hf _ _ hR hS ls (lv_sub hl [0, 1, 2] rfl)
set_option maxHeartbeats 4000000 in
set_option maxRecDepth 100000 in
theorem uX6_takeField_23 {p : Program} {l : Launch} {e : Env} {s : State} {m : MethodId} {args : Array Value} {below : List Frame} {meth : Method} {c : Code} {B0 : Nat} {D : va_G} {v : Nat → Nat} {r : Int32 × gH} (hM : gM p s m args meth c cX6_takeField 4 RX6 "takeField" (some .boolean)) (G : gH) (y0 : Nat) (y1 : Int32) (y2 : Int32) (hf : jX6_takeField_23 v G y0 y1 y2 = some r) (H : Heap) (locs : List Loc) (hR : gRep B0 D v G s H) (hS : va_S (gA B0) s.heap H locs) (ls : Array Slot) (hl : lv_has ls 4 [(0, .ref y0), (1, .int y1), (2, .int y2)]) : W p l e ({ frames := 2, cells := 0, slots := 0, locals := 47 } : Room) s m args below meth c H locs 0 0 (MQ below (gQ B0 D v (some (.int r.1)) r.2) args s 0 0 (gA B0)) (F0 m 23 ls []) := by
  obtain ⟨hx, hb, hr, hml, hown, hts, hlocks, hnm⟩ := id hM
  unfold jX6_takeField_23 at hf
  refine lv_aload_n hx hb dX6_takeField_23 rfl (lv_at hl 0 rfl) ?_
  refine lv_iload_n hx hb dX6_takeField_24 rfl (lv_at hl 1 rfl) ?_
  refine lv_iload_n hx hb dX6_takeField_25 rfl (lv_at hl 2 rfl) ?_
  obtain ⟨x1, h2, hf⟩ := gb hf
  refine g_callV0 (st1 := [.int x1.1]) [] hx hb hml hown hts hR hS kvX6_62 (mX6_takeBy256 l h2) (oX6_takeBy256 h2) ⟨rfl, rfl, Nat.le_of_ble_eq_true rfl, Nat.le_of_ble_eq_true rfl⟩ hl.1 rfl (Nat.le_of_ble_eq_true rfl) dX6_takeField_26 ⟨Nat.zero_le _, Nat.zero_le _⟩ rfl rfl (fun H locs hR hS => ?_)
  refine lv_goto (tgt := 38) hx hb dX6_takeField_29 (by decide) ?_
  refine g_zz hf (fun h3 _ hf => ?_)
  have hf := Option.some.inj hf
  subst hf
  exact g_zret hx hb hr hlocks hR hS dX6_takeField_38 h3 rfl rfl
theorem oX6_takeField {v : Nat → Nat} {G : gH} {a0 : Nat} {a1 : Int32} {a2 : Int32} {r : Int32 × gH} (h : fX6_takeField v G a0 a1 a2 = some r) : gOb G a0 6 = some () := by
  unfold fX6_takeField at h
  obtain ⟨u, hu, -⟩ := gb h
  exact hu
set_option maxHeartbeats 4000000 in
set_option maxRecDepth 100000 in
theorem mX6_takeField (l : Launch) {B0 : Nat} {D : va_G} {v : Nat → Nat} {G : gH} {a0 : Nat} {a1 : Int32} {a2 : Int32} {r : Int32 × gH} (hf : fX6_takeField v G a0 a1 a2 = some r) : Met l yX6_takeField (.code yX6_takeField cX6_takeField 4 (some .boolean) :: gW) ({ frames := 2, cells := 0, slots := 0, locals := 47 } : Room) (gPre B0 D v [.ref a0, .int a1, .int a2] G) (gQ B0 D v (some (.int r.1)) r.2) 0 0 (gA B0) := by
  refine g_met (lv := [(0, .ref a0), (1, .int a1), (2, .int a2)]) (by decide) (Nat.le_of_ble_eq_true rfl) rfl ?_
  intro p e s m below meth c hM hR ls hl
  obtain ⟨hx, hb, hr, hml, hown, hts, hlocks, hnm⟩ := id hM
  have hS : va_S (gA B0) s.heap s.heap [] := va_S.rf
  unfold fX6_takeField at hf
  obtain ⟨-, -, hf⟩ := gb hf
  refine lv_aload_n hx hb dX6_takeField_0 rfl (lv_at hl 0 rfl) ?_
  refine g_getR hx hb hts hown hR lkX6_30 dX6_takeField_1 hf (fun x1 hf => ?_)
  refine lv_iload_n hx hb dX6_takeField_4 rfl (lv_at hl 1 rfl) ?_
  obtain ⟨x2, h3, hf⟩ := gb hf
  refine g_callV0 (st1 := [.int x2]) [] hx hb hml hown hts hR hS kvX6_56 (mX7_at l h3) (oX7_at h3) ⟨rfl, rfl, Nat.le_of_ble_eq_true rfl, Nat.le_of_ble_eq_true rfl⟩ hl.1 rfl (Nat.le_of_ble_eq_true rfl) dX6_takeField_5 ⟨Nat.zero_le _, Nat.zero_le _⟩ rfl rfl (fun H locs hR hS => ?_)
  refine lv_istore_n (lv' := [(3, .int x2), (0, .ref a0), (1, .int a1), (2, .int a2)]) hx hb dX6_takeField_8 rfl hl (by decide) rfl (fun ls hl => ?_)
  refine lv_iload_n hx hb dX6_takeField_9 rfl (lv_at hl 0 rfl) ?_
  refine lv_sipush (v := (128 : Int32)) hx hb dX6_takeField_10 (by decide) ?_
  refine g_icmp_eq (tgt := 23) hx hb dX6_takeField_13 (by decide) hf (fun h4 hf => ?_) (fun h4 hf => ?_)
  · exact uX6_takeField_23 hM G a0 a1 a2 hf _ _ hR hS ls (lv_sub hl [1, 2, 3] rfl)
  · refine lv_iload_n hx hb dX6_takeField_16 rfl (lv_at hl 0 rfl) ?_
    refine lv_sipush (v := (255 : Int32)) hx hb dX6_takeField_17 (by decide) ?_
    refine g_icmp_ne (tgt := 32) hx hb dX6_takeField_20 (by decide) hf (fun h5 hf => ?_) (fun h5 hf => ?_)
    · refine lv_aload_n hx hb dX6_takeField_32 rfl (lv_at hl 1 rfl) ?_
      refine lv_iload_n hx hb dX6_takeField_33 rfl (lv_at hl 2 rfl) ?_
      refine lv_iload_n hx hb dX6_takeField_34 rfl (lv_at hl 3 rfl) ?_
      obtain ⟨x6, h7, hf⟩ := gb hf
      refine g_callV0 (st1 := [.int x6.1]) [] hx hb hml hown hts hR hS kvX6_34 (mX6_takeOctal l h7) (oX6_takeOctal h7) ⟨rfl, rfl, Nat.le_of_ble_eq_true rfl, Nat.le_of_ble_eq_true rfl⟩ hl.1 rfl (Nat.le_of_ble_eq_true rfl) dX6_takeField_35 ⟨Nat.zero_le _, Nat.zero_le _⟩ rfl rfl (fun H locs hR hS => ?_)
      refine g_zz hf (fun h8 _ hf => ?_)
      have hf := Option.some.inj hf
      subst hf
      exact g_zret hx hb hr hlocks hR hS dX6_takeField_38 h8 rfl rfl
    · exact uX6_takeField_23 hM G a0 a1 a2 hf _ _ hR hS ls (lv_sub hl [1, 2, 3] rfl)
theorem oX6_keep {v : Nat → Nat} {G : gH} {a0 : Nat} {a1 : Int32} {r : gH} (h : fX6_keep v G a0 a1 = some r) : gOb G a0 6 = some () := by
  unfold fX6_keep at h
  obtain ⟨u, hu, -⟩ := gb h
  exact hu
set_option maxHeartbeats 4000000 in
set_option maxRecDepth 100000 in
theorem mX6_keep (l : Launch) {B0 : Nat} {D : va_G} {v : Nat → Nat} {G : gH} {a0 : Nat} {a1 : Int32} {r : gH} (hf : fX6_keep v G a0 a1 = some r) : Met l yX6_keep (.code yX6_keep cX6_keep 2 none :: gW) ({ frames := 0, cells := 0, slots := 0, locals := 0 } : Room) (gPre B0 D v [.ref a0, .int a1] G) (gQ B0 D v none r) 0 0 (gA B0) := by
  refine g_met (lv := [(0, .ref a0), (1, .int a1)]) (by decide) (Nat.le_of_ble_eq_true rfl) rfl ?_
  intro p e s m below meth c hM hR ls hl
  obtain ⟨hx, hb, hr, hml, hown, hts, hlocks, hnm⟩ := id hM
  have hS : va_S (gA B0) s.heap s.heap [] := va_S.rf
  unfold fX6_keep at hf
  obtain ⟨-, -, hf⟩ := gb hf
  refine lv_iload_n hx hb dX6_keep_0 rfl (lv_at hl 1 rfl) ?_
  refine g_sw hf (fun h1 hf => ?_) (fun h1 hf => ?_)
  · refine lv_lookup (off := 43) (tgt := 44) hx hb dX6_keep_1 (by decide) (by rw [h1]; first | done | rfl) (by decide) ?_
    refine lv_aload_n hx hb dX6_keep_44 rfl (lv_at hl 0 rfl) ?_
    refine lv_aload_n hx hb dX6_keep_45 rfl (lv_at hl 0 rfl) ?_
    refine g_getJ hx hb hts hown hR lkX6_9 dX6_keep_46 hf (fun x2 hf => ?_)
    refine g_put hx hb hts hown hR hS lpX6_15 (Or.inl rfl) rfl rfl dX6_keep_49 hf (fun G3 H locs hf hR hS => ?_)
    refine lv_goto (tgt := 96) hx hb dX6_keep_52 (by decide) ?_
    have hf := Option.some.inj hf
    subst hf
    exact g_vret hx hb hr hlocks hR hS dX6_keep_96 rfl
  refine g_sw hf (fun h4 hf => ?_) (fun h4 hf => ?_)
  · refine lv_lookup (off := 54) (tgt := 55) hx hb dX6_keep_1 (by decide) (by rw [h4]; first | done | rfl) (by decide) ?_
    refine lv_aload_n hx hb dX6_keep_55 rfl (lv_at hl 0 rfl) ?_
    refine lv_aload_n hx hb dX6_keep_56 rfl (lv_at hl 0 rfl) ?_
    refine g_getJ hx hb hts hown hR lkX6_9 dX6_keep_57 hf (fun x5 hf => ?_)
    refine g_put hx hb hts hown hR hS lpX6_18 (Or.inl rfl) rfl rfl dX6_keep_60 hf (fun G6 H locs hf hR hS => ?_)
    refine lv_goto (tgt := 96) hx hb dX6_keep_63 (by decide) ?_
    have hf := Option.some.inj hf
    subst hf
    exact g_vret hx hb hr hlocks hR hS dX6_keep_96 rfl
  refine g_sw hf (fun h7 hf => ?_) (fun h7 hf => ?_)
  · refine lv_lookup (off := 65) (tgt := 66) hx hb dX6_keep_1 (by decide) (by rw [h7]; first | done | rfl) (by decide) ?_
    refine lv_aload_n hx hb dX6_keep_66 rfl (lv_at hl 0 rfl) ?_
    refine lv_aload_n hx hb dX6_keep_67 rfl (lv_at hl 0 rfl) ?_
    refine g_getJ hx hb hts hown hR lkX6_9 dX6_keep_68 hf (fun x8 hf => ?_)
    refine g_put hx hb hts hown hR hS lpX6_21 (Or.inl rfl) rfl rfl dX6_keep_71 hf (fun G9 H locs hf hR hS => ?_)
    refine lv_goto (tgt := 96) hx hb dX6_keep_74 (by decide) ?_
    have hf := Option.some.inj hf
    subst hf
    exact g_vret hx hb hr hlocks hR hS dX6_keep_96 rfl
  refine g_sw hf (fun h10 hf => ?_) (fun h10 hf => ?_)
  · refine lv_lookup (off := 76) (tgt := 77) hx hb dX6_keep_1 (by decide) (by rw [h10]; first | done | rfl) (by decide) ?_
    refine lv_aload_n hx hb dX6_keep_77 rfl (lv_at hl 0 rfl) ?_
    refine lv_aload_n hx hb dX6_keep_78 rfl (lv_at hl 0 rfl) ?_
    refine g_getJ hx hb hts hown hR lkX6_9 dX6_keep_79 hf (fun x11 hf => ?_)
    refine g_put hx hb hts hown hR hS lpX6_24 (Or.inl rfl) rfl rfl dX6_keep_82 hf (fun G12 H locs hf hR hS => ?_)
    refine lv_goto (tgt := 96) hx hb dX6_keep_85 (by decide) ?_
    have hf := Option.some.inj hf
    subst hf
    exact g_vret hx hb hr hlocks hR hS dX6_keep_96 rfl
  · refine lv_lookup (off := 87) (tgt := 88) hx hb dX6_keep_1 (by decide) (((lv_osw (k := (100 : Int32)) h1 (by decide)).trans ((lv_osw (k := (108 : Int32)) h4 (by decide)).trans ((lv_osw (k := (116 : Int32)) h7 (by decide)).trans ((lv_osw (k := (124 : Int32)) h10 (by decide)))))).trans rfl) (by decide) ?_
    refine lv_aload_n hx hb dX6_keep_88 rfl (lv_at hl 0 rfl) ?_
    refine lv_aload_n hx hb dX6_keep_89 rfl (lv_at hl 0 rfl) ?_
    refine g_getJ hx hb hts hown hR lkX6_9 dX6_keep_90 hf (fun x13 hf => ?_)
    refine g_put hx hb hts hown hR hS lpX6_27 (Or.inl rfl) rfl rfl dX6_keep_93 hf (fun G14 H locs hf hR hS => ?_)
    have hf := Option.some.inj hf
    subst hf
    exact g_vret hx hb hr hlocks hR hS dX6_keep_96 rfl
set_option maxHeartbeats 4000000 in
set_option maxRecDepth 100000 in
theorem uX6_take_60 {p : Program} {l : Launch} {e : Env} {s : State} {m : MethodId} {args : Array Value} {below : List Frame} {meth : Method} {c : Code} {B0 : Nat} {D : va_G} {v : Nat → Nat} {r : Int32 × gH} {K : gH → Nat → Int32 → Int32 → Option (Int32 × gH)} (hM : gM p s m args meth c cX6_take 4 RX6 "take" (some .int)) (hK : ∀ (G : gH) (q0 : Nat) (q1 : Int32) (q2 : Int32) (H : Heap) (locs : List Loc) (ls : Array Slot), K G q0 q1 q2 = some r → gRep B0 D v G s H → va_S (gA B0) s.heap H locs → lv_has ls 4 [(0, .ref q0), (1, .int q1), (2, .int q2)] → W p l e ({ frames := 3, cells := 0, slots := 0, locals := 70 } : Room) s m args below meth c H locs 0 0 (MQ below (gQ B0 D v (some (.int r.1)) r.2) args s 0 0 (gA B0)) (F0 m 2 ls [])) (G : gH) (y0 : Nat) (y1 : Int32) (y2 : Int32) (hf : jX6_take_60 v K G y0 y1 y2 = some r) (H : Heap) (locs : List Loc) (hR : gRep B0 D v G s H) (hS : va_S (gA B0) s.heap H locs) (ls : Array Slot) (hl : lv_has ls 4 [(0, .ref y0), (1, .int y1), (2, .int y2)]) : W p l e ({ frames := 3, cells := 0, slots := 0, locals := 70 } : Room) s m args below meth c H locs 0 0 (MQ below (gQ B0 D v (some (.int r.1)) r.2) args s 0 0 (gA B0)) (F0 m 60 ls []) := by
  obtain ⟨hx, hb, hr, hml, hown, hts, hlocks, hnm⟩ := id hM
  unfold jX6_take_60 at hf
  refine lv_aload_n hx hb dX6_take_60 rfl (lv_at hl 0 rfl) ?_
  refine g_gets (i := 4) hx hb hts hown hR rfl rfl kgX6_42 dX6_take_61 ?_
  refine lv_iload_n hx hb dX6_take_64 rfl (lv_at hl 2 rfl) ?_
  refine g_iald hx hb hR dX6_take_65 hf (fun x1 hf => ?_)
  obtain ⟨x2, h3, hf⟩ := gb hf
  refine g_callV0 (st1 := []) [] hx hb hml hown hts hR hS kvX6_52 (mX6_keep l h3) (oX6_keep h3) ⟨rfl, rfl, Nat.le_of_ble_eq_true rfl, Nat.le_of_ble_eq_true rfl⟩ hl.1 rfl (Nat.le_of_ble_eq_true rfl) dX6_take_66 ⟨Nat.zero_le _, Nat.zero_le _⟩ rfl rfl (fun H locs hR hS => ?_)
  refine g_iinc (k := 2) (n' := (1 : Int32)) (lv2 := [(0, .ref y0), (1, .int y1)]) hx hb dX6_take_69 hl rfl (by decide) (by decide) rfl hf (fun x4 ls hf hl => ?_)
  refine lv_goto (tgt := 2) hx hb dX6_take_72 (by decide) ?_
  exact hK x2 y0 y1 x4 _ _ ls hf hR hS (lv_sub hl [1, 2, 0] rfl)
set_option maxHeartbeats 4000000 in
set_option maxRecDepth 100000 in
theorem wX6_take_2 {p : Program} {l : Launch} {e : Env} {s : State} {m : MethodId} {args : Array Value} {below : List Frame} {meth : Method} {c : Code} {B0 : Nat} {D : va_G} {v : Nat → Nat} {r : Int32 × gH} (hM : gM p s m args meth c cX6_take 4 RX6 "take" (some .int)) : ∀ (n : Nat) (G : gH) (y0 : Nat) (y1 : Int32) (y2 : Int32), lX6_take_2 v n G y0 y1 y2 = some r → ∀ (H : Heap) (locs : List Loc), gRep B0 D v G s H → va_S (gA B0) s.heap H locs → ∀ (ls : Array Slot), lv_has ls 4 [(0, .ref y0), (1, .int y1), (2, .int y2)] → W p l e ({ frames := 3, cells := 0, slots := 0, locals := 70 } : Room) s m args below meth c H locs 0 0 (MQ below (gQ B0 D v (some (.int r.1)) r.2) args s 0 0 (gA B0)) (F0 m 2 ls []) := by
  obtain ⟨hx, hb, hr, hml, hown, hts, hlocks, hnm⟩ := id hM
  intro n
  induction n with
  | zero => intro G y0 y1 y2 hf; cases hf
  | succ n ih =>
    intro G y0 y1 y2 hf H locs hR hS ls hl
    have hK : ∀ (K : gH → Nat → Int32 → Int32 → Option (Int32 × gH)), K = lX6_take_2 v n → (∀ (G : gH) (q0 : Nat) (q1 : Int32) (q2 : Int32) (H : Heap) (locs : List Loc) (ls : Array Slot), K G q0 q1 q2 = some r → gRep B0 D v G s H → va_S (gA B0) s.heap H locs → lv_has ls 4 [(0, .ref q0), (1, .int q1), (2, .int q2)] → W p l e ({ frames := 3, cells := 0, slots := 0, locals := 70 } : Room) s m args below meth c H locs 0 0 (MQ below (gQ B0 D v (some (.int r.1)) r.2) args s 0 0 (gA B0)) (F0 m 2 ls [])) := fun K hk G q0 q1 q2 H locs ls h1 h2 h3 h4 => ih G q0 q1 q2 (by rw [← hk]; exact h1) H locs h2 h3 ls h4
    have hf : bX6_take_2 v (lX6_take_2 v n) G y0 y1 y2 = some r := hf
    have hK := hK _ rfl
    generalize lX6_take_2 v n = K at hf hK
    unfold bX6_take_2 at hf
    refine lv_iload_n hx hb dX6_take_2 rfl (lv_at hl 2 rfl) ?_
    refine g_gets (i := 4) hx hb hts hown hR rfl rfl kgX6_42 dX6_take_3 ?_
    refine g_lenW hx hb hR dX6_take_6 hf (fun x1 hf => ?_)
    refine g_icmp_ge (tgt := 75) hx hb dX6_take_7 (by decide) hf (fun h2 hf => ?_) (fun h2 hf => ?_)
    · refine lv_iconst (v := (-1 : Int32)) hx hb dX6_take_75 (by decide) ?_
      have hf := Option.some.inj hf
      subst hf
      exact g_iret hx hb hr hlocks hR hS dX6_take_76 rfl rfl
    · refine lv_iload_n hx hb dX6_take_10 rfl (lv_at hl 2 rfl) ?_
      refine g_gets (i := 5) hx hb hts hown hR rfl rfl kgX6_46 dX6_take_11 ?_
      refine g_lenW hx hb hR dX6_take_14 hf (fun x3 hf => ?_)
      refine g_icmp_ge (tgt := 75) hx hb dX6_take_15 (by decide) hf (fun h4 hf => ?_) (fun h4 hf => ?_)
      · refine lv_iconst (v := (-1 : Int32)) hx hb dX6_take_75 (by decide) ?_
        have hf := Option.some.inj hf
        subst hf
        exact g_iret hx hb hr hlocks hR hS dX6_take_76 rfl rfl
      · refine lv_iload_n hx hb dX6_take_18 rfl (lv_at hl 1 rfl) ?_
        refine g_gets (i := 4) hx hb hts hown hR rfl rfl kgX6_42 dX6_take_19 ?_
        refine lv_iload_n hx hb dX6_take_22 rfl (lv_at hl 2 rfl) ?_
        refine g_iald hx hb hR dX6_take_23 hf (fun x5 hf => ?_)
        refine lv_iadd hx hb dX6_take_24 ?_
        refine g_nmI hf (fun x6 hf => ?_)
        refine lv_istore_n (lv' := [(3, .int x6), (0, .ref y0), (1, .int y1), (2, .int y2)]) hx hb dX6_take_25 rfl hl (by decide) rfl (fun ls hl => ?_)
        refine lv_aload_n hx hb dX6_take_26 rfl (lv_at hl 1 rfl) ?_
        refine lv_iload_n hx hb dX6_take_27 rfl (lv_at hl 0 rfl) ?_
        refine g_gets (i := 5) hx hb hts hown hR rfl rfl kgX6_46 dX6_take_28 ?_
        refine lv_iload_n hx hb dX6_take_31 rfl (lv_at hl 3 rfl) ?_
        refine g_iald hx hb hR dX6_take_32 hf (fun x7 hf => ?_)
        obtain ⟨x8, h9, hf⟩ := gb hf
        refine g_callV0 (st1 := [.int x8.1]) [] hx hb hml hown hts hR hS kvX6_49 (mX6_takeField l h9) (oX6_takeField h9) ⟨rfl, rfl, Nat.le_of_ble_eq_true rfl, Nat.le_of_ble_eq_true rfl⟩ hl.1 rfl (Nat.le_of_ble_eq_true rfl) dX6_take_33 ⟨Nat.zero_le _, Nat.zero_le _⟩ rfl rfl (fun H locs hR hS => ?_)
        refine g_if_eq (tgt := 58) hx hb dX6_take_36 (by decide) hf (fun h10 hf => ?_) (fun h10 hf => ?_)
        · refine lv_iload_n hx hb dX6_take_58 rfl (lv_at hl 0 rfl) ?_
          have hf := Option.some.inj hf
          subst hf
          exact g_iret hx hb hr hlocks hR hS dX6_take_59 rfl rfl
        · refine g_gets (i := 4) hx hb hts hown hR rfl rfl kgX6_42 dX6_take_39 ?_
          refine lv_iload_n hx hb dX6_take_42 rfl (lv_at hl 3 rfl) ?_
          refine g_iald hx hb hR dX6_take_43 hf (fun x11 hf => ?_)
          refine lv_bipush (v := (124 : Int32)) hx hb dX6_take_44 (by decide) ?_
          refine g_icmp_ne (tgt := 60) hx hb dX6_take_46 (by decide) hf (fun h12 hf => ?_) (fun h12 hf => ?_)
          · exact uX6_take_60 hM hK x8.2 y0 y1 y2 hf _ _ hR hS ls (lv_sub hl [1, 2, 3] rfl)
          · refine lv_aload_n hx hb dX6_take_49 rfl (lv_at hl 1 rfl) ?_
            refine g_getJ hx hb hts hown hR lkX6_9 dX6_take_50 hf (fun x13 hf => ?_)
            refine lv_lconst (v := (0 : Int64)) hx hb dX6_take_53 (by decide) ?_
            refine g_lif_ge (tgt := 60) hx hb dX6_take_54 dX6_take_55 (by decide) hf (fun h14 hf => ?_) (fun h14 hf => ?_)
            · exact uX6_take_60 hM hK x8.2 y0 y1 y2 hf _ _ hR hS ls (lv_sub hl [1, 2, 3] rfl)
            · refine lv_iload_n hx hb dX6_take_58 rfl (lv_at hl 0 rfl) ?_
              have hf := Option.some.inj hf
              subst hf
              exact g_iret hx hb hr hlocks hR hS dX6_take_59 rfl rfl
theorem oX6_take {v : Nat → Nat} {G : gH} {a0 : Nat} {a1 : Int32} {r : Int32 × gH} (h : fX6_take v G a0 a1 = some r) : gOb G a0 6 = some () := by
  unfold fX6_take at h
  obtain ⟨u, hu, -⟩ := gb h
  exact hu
set_option maxHeartbeats 4000000 in
set_option maxRecDepth 100000 in
theorem mX6_take (l : Launch) {B0 : Nat} {D : va_G} {v : Nat → Nat} {G : gH} {a0 : Nat} {a1 : Int32} {r : Int32 × gH} (hf : fX6_take v G a0 a1 = some r) : Met l yX6_take (.code yX6_take cX6_take 4 (some .int) :: gW) ({ frames := 3, cells := 0, slots := 0, locals := 70 } : Room) (gPre B0 D v [.ref a0, .int a1] G) (gQ B0 D v (some (.int r.1)) r.2) 0 0 (gA B0) := by
  refine g_met (lv := [(0, .ref a0), (1, .int a1)]) (by decide) (Nat.le_of_ble_eq_true rfl) rfl ?_
  intro p e s m below meth c hM hR ls hl
  obtain ⟨hx, hb, hr, hml, hown, hts, hlocks, hnm⟩ := id hM
  have hS : va_S (gA B0) s.heap s.heap [] := va_S.rf
  unfold fX6_take at hf
  obtain ⟨-, -, hf⟩ := gb hf
  refine lv_iconst (v := (0 : Int32)) hx hb dX6_take_0 (by decide) ?_
  refine lv_istore_n (lv' := [(2, .int (0 : Int32)), (0, .ref a0), (1, .int a1)]) hx hb dX6_take_1 rfl hl (by decide) rfl (fun ls hl => ?_)
  exact wX6_take_2 hM gFu G a0 a1 (0 : Int32) hf _ _ hR hS ls (lv_sub hl [1, 2, 0] rfl)
set_option maxHeartbeats 4000000 in
set_option maxRecDepth 100000 in
theorem uX10_isEntryKind_24 {p : Program} {l : Launch} {e : Env} {s : State} {m : MethodId} {args : Array Value} {below : List Frame} {meth : Method} {c : Code} {B0 : Nat} {D : va_G} {v : Nat → Nat} {r : Int32} {G : gH} (hM : gM p s m args meth c cX10_isEntryKind 1 RX10 "isEntryKind" (some .boolean)) (hf : jX10_isEntryKind_24 v G = some r) (H : Heap) (locs : List Loc) (hR : gRep B0 D v G s H) (hS : va_S (gA B0) s.heap H locs) (ls : Array Slot) (hl : lv_has ls 1 []) : W p l e ({ frames := 0, cells := 0, slots := 0, locals := 0 } : Room) s m args below meth c H locs 0 0 (MQ below (gQ B0 D v (some (.int r)) G) args s 0 0 (gA B0)) (F0 m 24 ls []) := by
  obtain ⟨hx, hb, hr, hml, hown, hts, hlocks, hnm⟩ := id hM
  unfold jX10_isEntryKind_24 at hf
  refine lv_iconst (v := (1 : Int32)) hx hb dX10_isEntryKind_24 (by decide) ?_
  refine lv_goto (tgt := 29) hx hb dX10_isEntryKind_25 (by decide) ?_
  refine g_zz hf (fun h1 _ hf => ?_)
  have hf := Option.some.inj hf
  subst hf
  exact g_zret hx hb hr hlocks hR hS dX10_isEntryKind_29 h1 rfl rfl
set_option maxHeartbeats 4000000 in
set_option maxRecDepth 100000 in
theorem mX10_isEntryKind (l : Launch) {B0 : Nat} {D : va_G} {v : Nat → Nat} {G : gH} {a0 : Int32} {r : Int32} (hf : fX10_isEntryKind v G a0 = some r) : Met l yX10_isEntryKind (.code yX10_isEntryKind cX10_isEntryKind 1 (some .boolean) :: gW) ({ frames := 0, cells := 0, slots := 0, locals := 0 } : Room) (gPre B0 D v [.int a0] G) (gQ B0 D v (some (.int r)) G) 0 0 (gA B0) := by
  refine g_met (lv := [(0, .int a0)]) (by decide) (Nat.le_of_ble_eq_true rfl) rfl ?_
  intro p e s m below meth c hM hR ls hl
  obtain ⟨hx, hb, hr, hml, hown, hts, hlocks, hnm⟩ := id hM
  have hS : va_S (gA B0) s.heap s.heap [] := va_S.rf
  unfold fX10_isEntryKind at hf
  refine lv_iload_n hx hb dX10_isEntryKind_0 rfl (lv_at hl 0 rfl) ?_
  refine lv_bipush (v := (48 : Int32)) hx hb dX10_isEntryKind_1 (by decide) ?_
  refine g_icmp_eq (tgt := 24) hx hb dX10_isEntryKind_3 (by decide) hf (fun h1 hf => ?_) (fun h1 hf => ?_)
  · exact uX10_isEntryKind_24 hM  hf _ _ hR hS ls (lv_sub hl [] rfl)
  · refine lv_iload_n hx hb dX10_isEntryKind_6 rfl (lv_at hl 0 rfl) ?_
    refine lv_bipush (v := (49 : Int32)) hx hb dX10_isEntryKind_7 (by decide) ?_
    refine g_icmp_eq (tgt := 24) hx hb dX10_isEntryKind_9 (by decide) hf (fun h2 hf => ?_) (fun h2 hf => ?_)
    · exact uX10_isEntryKind_24 hM  hf _ _ hR hS ls (lv_sub hl [] rfl)
    · refine lv_iload_n hx hb dX10_isEntryKind_12 rfl (lv_at hl 0 rfl) ?_
      refine lv_bipush (v := (50 : Int32)) hx hb dX10_isEntryKind_13 (by decide) ?_
      refine g_icmp_eq (tgt := 24) hx hb dX10_isEntryKind_15 (by decide) hf (fun h3 hf => ?_) (fun h3 hf => ?_)
      · exact uX10_isEntryKind_24 hM  hf _ _ hR hS ls (lv_sub hl [] rfl)
      · refine lv_iload_n hx hb dX10_isEntryKind_18 rfl (lv_at hl 0 rfl) ?_
        refine lv_bipush (v := (53 : Int32)) hx hb dX10_isEntryKind_19 (by decide) ?_
        refine g_icmp_ne (tgt := 28) hx hb dX10_isEntryKind_21 (by decide) hf (fun h4 hf => ?_) (fun h4 hf => ?_)
        · refine lv_iconst (v := (0 : Int32)) hx hb dX10_isEntryKind_28 (by decide) ?_
          refine g_zz hf (fun h5 _ hf => ?_)
          have hf := Option.some.inj hf
          subst hf
          exact g_zret hx hb hr hlocks hR hS dX10_isEntryKind_29 h5 rfl rfl
        · exact uX10_isEntryKind_24 hM  hf _ _ hR hS ls (lv_sub hl [] rfl)
set_option maxHeartbeats 4000000 in
set_option maxRecDepth 100000 in
theorem uX1_isAheadKind_24 {p : Program} {l : Launch} {e : Env} {s : State} {m : MethodId} {args : Array Value} {below : List Frame} {meth : Method} {c : Code} {B0 : Nat} {D : va_G} {v : Nat → Nat} {r : Int32} {G : gH} (hM : gM p s m args meth c cX1_isAheadKind 1 RX1 "isAheadKind" (some .boolean)) (hf : jX1_isAheadKind_24 v G = some r) (H : Heap) (locs : List Loc) (hR : gRep B0 D v G s H) (hS : va_S (gA B0) s.heap H locs) (ls : Array Slot) (hl : lv_has ls 1 []) : W p l e ({ frames := 0, cells := 0, slots := 0, locals := 0 } : Room) s m args below meth c H locs 0 0 (MQ below (gQ B0 D v (some (.int r)) G) args s 0 0 (gA B0)) (F0 m 24 ls []) := by
  obtain ⟨hx, hb, hr, hml, hown, hts, hlocks, hnm⟩ := id hM
  unfold jX1_isAheadKind_24 at hf
  refine lv_iconst (v := (1 : Int32)) hx hb dX1_isAheadKind_24 (by decide) ?_
  refine lv_goto (tgt := 29) hx hb dX1_isAheadKind_25 (by decide) ?_
  refine g_zz hf (fun h1 _ hf => ?_)
  have hf := Option.some.inj hf
  subst hf
  exact g_zret hx hb hr hlocks hR hS dX1_isAheadKind_29 h1 rfl rfl
set_option maxHeartbeats 4000000 in
set_option maxRecDepth 100000 in
theorem mX1_isAheadKind (l : Launch) {B0 : Nat} {D : va_G} {v : Nat → Nat} {G : gH} {a0 : Int32} {r : Int32} (hf : fX1_isAheadKind v G a0 = some r) : Met l yX1_isAheadKind (.code yX1_isAheadKind cX1_isAheadKind 1 (some .boolean) :: gW) ({ frames := 0, cells := 0, slots := 0, locals := 0 } : Room) (gPre B0 D v [.int a0] G) (gQ B0 D v (some (.int r)) G) 0 0 (gA B0) := by
  refine g_met (lv := [(0, .int a0)]) (by decide) (Nat.le_of_ble_eq_true rfl) rfl ?_
  intro p e s m below meth c hM hR ls hl
  obtain ⟨hx, hb, hr, hml, hown, hts, hlocks, hnm⟩ := id hM
  have hS : va_S (gA B0) s.heap s.heap [] := va_S.rf
  unfold fX1_isAheadKind at hf
  refine lv_iload_n hx hb dX1_isAheadKind_0 rfl (lv_at hl 0 rfl) ?_
  refine lv_bipush (v := (120 : Int32)) hx hb dX1_isAheadKind_1 (by decide) ?_
  refine g_icmp_eq (tgt := 24) hx hb dX1_isAheadKind_3 (by decide) hf (fun h1 hf => ?_) (fun h1 hf => ?_)
  · exact uX1_isAheadKind_24 hM  hf _ _ hR hS ls (lv_sub hl [] rfl)
  · refine lv_iload_n hx hb dX1_isAheadKind_6 rfl (lv_at hl 0 rfl) ?_
    refine lv_bipush (v := (103 : Int32)) hx hb dX1_isAheadKind_7 (by decide) ?_
    refine g_icmp_eq (tgt := 24) hx hb dX1_isAheadKind_9 (by decide) hf (fun h2 hf => ?_) (fun h2 hf => ?_)
    · exact uX1_isAheadKind_24 hM  hf _ _ hR hS ls (lv_sub hl [] rfl)
    · refine lv_iload_n hx hb dX1_isAheadKind_12 rfl (lv_at hl 0 rfl) ?_
      refine lv_bipush (v := (75 : Int32)) hx hb dX1_isAheadKind_13 (by decide) ?_
      refine g_icmp_eq (tgt := 24) hx hb dX1_isAheadKind_15 (by decide) hf (fun h3 hf => ?_) (fun h3 hf => ?_)
      · exact uX1_isAheadKind_24 hM  hf _ _ hR hS ls (lv_sub hl [] rfl)
      · refine lv_iload_n hx hb dX1_isAheadKind_18 rfl (lv_at hl 0 rfl) ?_
        refine lv_bipush (v := (76 : Int32)) hx hb dX1_isAheadKind_19 (by decide) ?_
        refine g_icmp_ne (tgt := 28) hx hb dX1_isAheadKind_21 (by decide) hf (fun h4 hf => ?_) (fun h4 hf => ?_)
        · refine lv_iconst (v := (0 : Int32)) hx hb dX1_isAheadKind_28 (by decide) ?_
          refine g_zz hf (fun h5 _ hf => ?_)
          have hf := Option.some.inj hf
          subst hf
          exact g_zret hx hb hr hlocks hR hS dX1_isAheadKind_29 h5 rfl rfl
        · exact uX1_isAheadKind_24 hM  hf _ _ hR hS ls (lv_sub hl [] rfl)
set_option maxHeartbeats 4000000 in
set_option maxRecDepth 100000 in
theorem mX1_pick (l : Launch) {B0 : Nat} {D : va_G} {v : Nat → Nat} {G : gH} {a0 : Int64} {a1 : Int64} {a2 : Int64} {r : Int64} (hf : fX1_pick v G a0 a1 a2 = some r) : Met l yX1_pick (.code yX1_pick cX1_pick 6 (some .long) :: gW) ({ frames := 0, cells := 0, slots := 0, locals := 0 } : Room) (gPre B0 D v [.long a0, .long a1, .long a2] G) (gQ B0 D v (some (.long r)) G) 0 0 (gA B0) := by
  refine g_met (lv := [(0, .long a0), (2, .long a1), (4, .long a2)]) (by decide) (Nat.le_of_ble_eq_true rfl) rfl ?_
  intro p e s m below meth c hM hR ls hl
  obtain ⟨hx, hb, hr, hml, hown, hts, hlocks, hnm⟩ := id hM
  have hS : va_S (gA B0) s.heap s.heap [] := va_S.rf
  unfold fX1_pick at hf
  refine lv_lload_n hx hb dX1_pick_0 rfl (lv_at hl 0 rfl) ?_
  refine lv_lconst (v := (0 : Int64)) hx hb dX1_pick_1 (by decide) ?_
  refine g_lif_lt (tgt := 10) hx hb dX1_pick_2 dX1_pick_3 (by decide) hf (fun h1 hf => ?_) (fun h1 hf => ?_)
  · refine lv_lload_n hx hb dX1_pick_10 rfl (lv_at hl 1 rfl) ?_
    refine lv_lconst (v := (0 : Int64)) hx hb dX1_pick_11 (by decide) ?_
    refine g_lif_lt (tgt := 20) hx hb dX1_pick_12 dX1_pick_13 (by decide) hf (fun h2 hf => ?_) (fun h2 hf => ?_)
    · refine lv_lload hx hb dX1_pick_20 (lv_at hl 2 rfl) ?_
      have hf := Option.some.inj hf
      subst hf
      exact g_lret hx hb hr hlocks hR hS dX1_pick_22 rfl rfl
    · refine lv_lload_n hx hb dX1_pick_16 rfl (lv_at hl 1 rfl) ?_
      refine lv_goto (tgt := 22) hx hb dX1_pick_17 (by decide) ?_
      have hf := Option.some.inj hf
      subst hf
      exact g_lret hx hb hr hlocks hR hS dX1_pick_22 rfl rfl
  · refine lv_lload_n hx hb dX1_pick_6 rfl (lv_at hl 0 rfl) ?_
    refine lv_goto (tgt := 22) hx hb dX1_pick_7 (by decide) ?_
    have hf := Option.some.inj hf
    subst hf
    exact g_lret hx hb hr hlocks hR hS dX1_pick_22 rfl rfl
set_option maxHeartbeats 4000000 in
set_option maxRecDepth 100000 in
theorem mX10_filled (l : Launch) {B0 : Nat} {D : va_G} {v : Nat → Nat} {G : gH} {a0 : Int32} {r : Int32} (hf : fX10_filled v G a0 = some r) : Met l yX10_filled (.code yX10_filled cX10_filled 1 (some .int) :: gW) ({ frames := 0, cells := 0, slots := 0, locals := 0 } : Room) (gPre B0 D v [.int a0] G) (gQ B0 D v (some (.int r)) G) 0 0 (gA B0) := by
  refine g_met (lv := [(0, .int a0)]) (by decide) (Nat.le_of_ble_eq_true rfl) rfl ?_
  intro p e s m below meth c hM hR ls hl
  obtain ⟨hx, hb, hr, hml, hown, hts, hlocks, hnm⟩ := id hM
  have hS : va_S (gA B0) s.heap s.heap [] := va_S.rf
  unfold fX10_filled at hf
  refine lv_iload_n hx hb dX10_filled_0 rfl (lv_at hl 0 rfl) ?_
  refine lv_sipush (v := (512 : Int32)) hx hb dX10_filled_1 (by decide) ?_
  refine lv_iadd hx hb dX10_filled_4 ?_
  refine lv_iconst (v := (1 : Int32)) hx hb dX10_filled_5 (by decide) ?_
  refine lv_isub hx hb dX10_filled_6 ?_
  refine lv_sipush (v := (512 : Int32)) hx hb dX10_filled_7 (by decide) ?_
  refine lv_idiv hx hb dX10_filled_10 (by decide) ?_
  refine lv_sipush (v := (512 : Int32)) hx hb dX10_filled_11 (by decide) ?_
  refine lv_imul hx hb dX10_filled_14 ?_
  have hf := Option.some.inj hf
  subst hf
  exact g_iret hx hb hr hlocks hR hS dX10_filled_15 rfl rfl
theorem oX7_add {v : Nat → Nat} {G : gH} {a0 : Nat} {a1 : Int32} {r : gH} (h : fX7_add v G a0 a1 = some r) : gOb G a0 7 = some () := by
  unfold fX7_add at h
  obtain ⟨u, hu, -⟩ := gb h
  exact hu
set_option maxHeartbeats 4000000 in
set_option maxRecDepth 100000 in
theorem mX7_add (l : Launch) {B0 : Nat} {D : va_G} {v : Nat → Nat} {G : gH} {a0 : Nat} {a1 : Int32} {r : gH} (hf : fX7_add v G a0 a1 = some r) : Met l yX7_add (.code yX7_add cX7_add 2 none :: gW) ({ frames := 0, cells := 0, slots := 0, locals := 0 } : Room) (gPre B0 D v [.ref a0, .int a1] G) (gQ B0 D v none r) 0 0 (gA B0) := by
  refine g_met (lv := [(0, .ref a0), (1, .int a1)]) (by decide) (Nat.le_of_ble_eq_true rfl) rfl ?_
  intro p e s m below meth c hM hR ls hl
  obtain ⟨hx, hb, hr, hml, hown, hts, hlocks, hnm⟩ := id hM
  have hS : va_S (gA B0) s.heap s.heap [] := va_S.rf
  unfold fX7_add at hf
  obtain ⟨-, -, hf⟩ := gb hf
  refine lv_aload_n hx hb dX7_add_0 rfl (lv_at hl 0 rfl) ?_
  refine g_getI hx hb hts hown hR lkX7_9 dX7_add_1 hf (fun x1 hf => ?_)
  refine g_if_lt (tgt := 40) hx hb dX7_add_4 (by decide) hf (fun h2 hf => ?_) (fun h2 hf => ?_)
  · have hf := Option.some.inj hf
    subst hf
    exact g_vret hx hb hr hlocks hR hS dX7_add_40 rfl
  · refine lv_aload_n hx hb dX7_add_7 rfl (lv_at hl 0 rfl) ?_
    refine g_getI hx hb hts hown hR lkX7_9 dX7_add_8 hf (fun x3 hf => ?_)
    refine lv_aload_n hx hb dX7_add_11 rfl (lv_at hl 0 rfl) ?_
    refine g_getR hx hb hts hown hR lkX7_21 dX7_add_12 hf (fun x4 hf => ?_)
    refine g_lenW hx hb hR dX7_add_15 hf (fun x5 hf => ?_)
    refine g_icmp_ge (tgt := 40) hx hb dX7_add_16 (by decide) hf (fun h6 hf => ?_) (fun h6 hf => ?_)
    · have hf := Option.some.inj hf
      subst hf
      exact g_vret hx hb hr hlocks hR hS dX7_add_40 rfl
    · refine lv_aload_n hx hb dX7_add_19 rfl (lv_at hl 0 rfl) ?_
      refine g_getR hx hb hts hown hR lkX7_21 dX7_add_20 hf (fun x7 hf => ?_)
      refine lv_aload_n hx hb dX7_add_23 rfl (lv_at hl 0 rfl) ?_
      refine g_getI hx hb hts hown hR lkX7_9 dX7_add_24 hf (fun x8 hf => ?_)
      refine lv_iload_n hx hb dX7_add_27 rfl (lv_at hl 1 rfl) ?_
      refine lv_i2b hx hb dX7_add_28 rfl ?_
      refine g_bast hx hb hR hS dX7_add_29 hf (fun G9 H locs hf hR hS => ?_)
      refine lv_aload_n hx hb dX7_add_30 rfl (lv_at hl 0 rfl) ?_
      refine lv_dup hx hb dX7_add_31 rfl ?_
      refine g_getI hx hb hts hown hR lkX7_9 dX7_add_32 hf (fun x10 hf => ?_)
      refine lv_iconst (v := (1 : Int32)) hx hb dX7_add_35 (by decide) ?_
      refine lv_iadd hx hb dX7_add_36 ?_
      refine g_put hx hb hts hown hR hS lpX7_9 (Or.inl rfl) rfl rfl dX7_add_37 hf (fun G11 H locs hf hR hS => ?_)
      have hf := Option.some.inj hf
      subst hf
      exact g_vret hx hb hr hlocks hR hS dX7_add_40 rfl
set_option maxHeartbeats 4000000 in
set_option maxRecDepth 100000 in
theorem wX7_addPart_3 {p : Program} {l : Launch} {e : Env} {s : State} {m : MethodId} {args : Array Value} {below : List Frame} {meth : Method} {c : Code} {B0 : Nat} {D : va_G} {v : Nat → Nat} {r : gH} (hM : gM p s m args meth c cX7_addPart 5 RX7 "addPart" none) : ∀ (n : Nat) (G : gH) (y0 : Nat) (y1 : Nat) (y3 : Int32) (y4 : Int32), lX7_addPart_3 v n G y0 y1 y3 y4 = some r → ∀ (H : Heap) (locs : List Loc), gRep B0 D v G s H → va_S (gA B0) s.heap H locs → ∀ (ls : Array Slot), lv_has ls 5 [(0, .ref y0), (1, .ref y1), (3, .int y3), (4, .int y4)] → W p l e ({ frames := 1, cells := 0, slots := 0, locals := 21 } : Room) s m args below meth c H locs 0 0 (MQ below (gQ B0 D v none r) args s 0 0 (gA B0)) (F0 m 3 ls []) := by
  obtain ⟨hx, hb, hr, hml, hown, hts, hlocks, hnm⟩ := id hM
  intro n
  induction n with
  | zero => intro G y0 y1 y3 y4 hf; cases hf
  | succ n ih =>
    intro G y0 y1 y3 y4 hf H locs hR hS ls hl
    have hK : ∀ (K : gH → Nat → Nat → Int32 → Int32 → Option gH), K = lX7_addPart_3 v n → (∀ (G : gH) (q0 : Nat) (q1 : Nat) (q3 : Int32) (q4 : Int32) (H : Heap) (locs : List Loc) (ls : Array Slot), K G q0 q1 q3 q4 = some r → gRep B0 D v G s H → va_S (gA B0) s.heap H locs → lv_has ls 5 [(0, .ref q0), (1, .ref q1), (3, .int q3), (4, .int q4)] → W p l e ({ frames := 1, cells := 0, slots := 0, locals := 21 } : Room) s m args below meth c H locs 0 0 (MQ below (gQ B0 D v none r) args s 0 0 (gA B0)) (F0 m 3 ls [])) := fun K hk G q0 q1 q3 q4 H locs ls h1 h2 h3 h4 => ih G q0 q1 q3 q4 (by rw [← hk]; exact h1) H locs h2 h3 ls h4
    have hf : bX7_addPart_3 v (lX7_addPart_3 v n) G y0 y1 y3 y4 = some r := hf
    have hK := hK _ rfl
    generalize lX7_addPart_3 v n = K at hf hK
    unfold bX7_addPart_3 at hf
    refine lv_iload hx hb dX7_addPart_3 (lv_at hl 3 rfl) ?_
    refine lv_iload_n hx hb dX7_addPart_5 rfl (lv_at hl 2 rfl) ?_
    refine g_icmp_ge (tgt := 25) hx hb dX7_addPart_6 (by decide) hf (fun h1 hf => ?_) (fun h1 hf => ?_)
    · have hf := Option.some.inj hf
      subst hf
      exact g_vret hx hb hr hlocks hR hS dX7_addPart_25 rfl
    · refine lv_aload_n hx hb dX7_addPart_9 rfl (lv_at hl 0 rfl) ?_
      refine lv_aload_n hx hb dX7_addPart_10 rfl (lv_at hl 1 rfl) ?_
      refine lv_iload hx hb dX7_addPart_11 (lv_at hl 3 rfl) ?_
      obtain ⟨x2, h3, hf⟩ := gb hf
      refine g_callV0 (st1 := [.int x2, .ref y0]) [.ref y0] hx hb hml hown hts hR hS kvX7_33 (mX7_at l h3) (oX7_at h3) ⟨rfl, rfl, Nat.le_of_ble_eq_true rfl, Nat.le_of_ble_eq_true rfl⟩ hl.1 rfl (Nat.le_of_ble_eq_true rfl) dX7_addPart_13 ⟨Nat.zero_le _, Nat.zero_le _⟩ rfl rfl (fun H locs hR hS => ?_)
      obtain ⟨x4, h5, hf⟩ := gb hf
      refine g_callV0 (st1 := []) [] hx hb hml hown hts hR hS kvX7_25 (mX7_add l h5) (oX7_add h5) ⟨rfl, rfl, Nat.le_of_ble_eq_true rfl, Nat.le_of_ble_eq_true rfl⟩ hl.1 rfl (Nat.le_of_ble_eq_true rfl) dX7_addPart_16 ⟨Nat.zero_le _, Nat.zero_le _⟩ rfl rfl (fun H locs hR hS => ?_)
      refine g_iinc (k := 3) (n' := (1 : Int32)) (lv2 := [(0, .ref y0), (1, .ref y1), (3, .int y3)]) hx hb dX7_addPart_19 hl rfl (by decide) (by decide) rfl hf (fun x6 ls hf hl => ?_)
      refine lv_goto (tgt := 3) hx hb dX7_addPart_22 (by decide) ?_
      exact hK x4 y0 y1 y3 x6 _ _ ls hf hR hS (lv_sub hl [1, 2, 3, 0] rfl)
theorem oX7_addPart {v : Nat → Nat} {G : gH} {a0 : Nat} {a1 : Nat} {a2 : Int32} {a3 : Int32} {r : gH} (h : fX7_addPart v G a0 a1 a2 a3 = some r) : gOb G a0 7 = some () := by
  unfold fX7_addPart at h
  obtain ⟨u, hu, -⟩ := gb h
  exact hu
set_option maxHeartbeats 4000000 in
set_option maxRecDepth 100000 in
theorem mX7_addPart (l : Launch) {B0 : Nat} {D : va_G} {v : Nat → Nat} {G : gH} {a0 : Nat} {a1 : Nat} {a2 : Int32} {a3 : Int32} {r : gH} (hf : fX7_addPart v G a0 a1 a2 a3 = some r) : Met l yX7_addPart (.code yX7_addPart cX7_addPart 5 none :: gW) ({ frames := 1, cells := 0, slots := 0, locals := 21 } : Room) (gPre B0 D v [.ref a0, .ref a1, .int a2, .int a3] G) (gQ B0 D v none r) 0 0 (gA B0) := by
  refine g_met (lv := [(0, .ref a0), (1, .ref a1), (2, .int a2), (3, .int a3)]) (by decide) (Nat.le_of_ble_eq_true rfl) rfl ?_
  intro p e s m below meth c hM hR ls hl
  obtain ⟨hx, hb, hr, hml, hown, hts, hlocks, hnm⟩ := id hM
  have hS : va_S (gA B0) s.heap s.heap [] := va_S.rf
  unfold fX7_addPart at hf
  obtain ⟨-, -, hf⟩ := gb hf
  refine lv_iload_n hx hb dX7_addPart_0 rfl (lv_at hl 2 rfl) ?_
  refine lv_istore (lv' := [(4, .int a2), (0, .ref a0), (1, .ref a1), (2, .int a2), (3, .int a3)]) hx hb dX7_addPart_1 hl (by decide) rfl (fun ls hl => ?_)
  exact wX7_addPart_3 hM gFu G a0 a1 a3 a2 hf _ _ hR hS ls (lv_sub hl [1, 2, 4, 0] rfl)
theorem oJ0_coder_7d493 {v : Nat → Nat} {G : gH} {a0 : Nat} {r : Int32} (h : fJ0_coder_7d493 v G a0 = some r) : gOb G a0 1000 = some () := by
  unfold fJ0_coder_7d493 at h
  obtain ⟨u, hu, -⟩ := gb h
  exact hu
set_option maxHeartbeats 4000000 in
set_option maxRecDepth 100000 in
theorem mJ0_coder_7d493 (l : Launch) {B0 : Nat} {D : va_G} {v : Nat → Nat} {G : gH} {a0 : Nat} {r : Int32} (hf : fJ0_coder_7d493 v G a0 = some r) : Met l yJ0_coder_7d493 (.code yJ0_coder_7d493 cJ0_coder_7d493 1 (some .byte) :: gW) ({ frames := 0, cells := 0, slots := 0, locals := 0 } : Room) (gPre B0 D v [.ref a0] G) (gQ B0 D v (some (.int r)) G) 0 0 (gA B0) := by
  refine g_met (lv := [(0, .ref a0)]) (by decide) (Nat.le_of_ble_eq_true rfl) rfl ?_
  intro p e s m below meth c hM hR ls hl
  obtain ⟨hx, hb, hr, hml, hown, hts, hlocks, hnm⟩ := id hM
  have hS : va_S (gA B0) s.heap s.heap [] := va_S.rf
  unfold fJ0_coder_7d493 at hf
  obtain ⟨-, -, hf⟩ := gb hf
  refine g_gets (i := 6) hx hb hts hown hR rfl rfl kgJ0_38 dJ0_coder_7d493_0 ?_
  refine g_if_eq (tgt := 13) hx hb dJ0_coder_7d493_3 (by decide) hf (fun h1 hf => ?_) (fun h1 hf => ?_)
  · refine lv_iconst (v := (1 : Int32)) hx hb dJ0_coder_7d493_13 (by decide) ?_
    refine g_nn hf (fun h2 hf => ?_)
    have hf := Option.some.inj hf
    subst hf
    exact g_zret hx hb hr hlocks hR hS dJ0_coder_7d493_14 h2 rfl rfl
  · refine lv_aload_n hx hb dJ0_coder_7d493_6 rfl (lv_at hl 0 rfl) ?_
    refine g_getI hx hb hts hown hR lkJ0_15 dJ0_coder_7d493_7 hf (fun x3 hf => ?_)
    refine lv_goto (tgt := 14) hx hb dJ0_coder_7d493_10 (by decide) ?_
    refine g_nn hf (fun h4 hf => ?_)
    have hf := Option.some.inj hf
    subst hf
    exact g_zret hx hb hr hlocks hR hS dJ0_coder_7d493_14 h4 rfl rfl
theorem oJ0_length_8abf5 {v : Nat → Nat} {G : gH} {a0 : Nat} {r : Int32} (h : fJ0_length_8abf5 v G a0 = some r) : gOb G a0 1000 = some () := by
  unfold fJ0_length_8abf5 at h
  obtain ⟨u, hu, -⟩ := gb h
  exact hu
set_option maxHeartbeats 4000000 in
set_option maxRecDepth 100000 in
theorem mJ0_length_8abf5 (l : Launch) {B0 : Nat} {D : va_G} {v : Nat → Nat} {G : gH} {a0 : Nat} {r : Int32} (hf : fJ0_length_8abf5 v G a0 = some r) : Met l yJ0_length_8abf5 (.code yJ0_length_8abf5 cJ0_length_8abf5 1 (some .int) :: gW) ({ frames := 1, cells := 0, slots := 0, locals := 20 } : Room) (gPre B0 D v [.ref a0] G) (gQ B0 D v (some (.int r)) G) 0 0 (gA B0) := by
  refine g_met (lv := [(0, .ref a0)]) (by decide) (Nat.le_of_ble_eq_true rfl) rfl ?_
  intro p e s m below meth c hM hR ls hl
  obtain ⟨hx, hb, hr, hml, hown, hts, hlocks, hnm⟩ := id hM
  have hS : va_S (gA B0) s.heap s.heap [] := va_S.rf
  unfold fJ0_length_8abf5 at hf
  obtain ⟨-, -, hf⟩ := gb hf
  refine lv_aload_n hx hb dJ0_length_8abf5_0 rfl (lv_at hl 0 rfl) ?_
  refine g_getR hx hb hts hown hR lkJ0_9 dJ0_length_8abf5_1 hf (fun x1 hf => ?_)
  refine g_lenW hx hb hR dJ0_length_8abf5_4 hf (fun x2 hf => ?_)
  refine lv_aload_n hx hb dJ0_length_8abf5_5 rfl (lv_at hl 0 rfl) ?_
  obtain ⟨x3, h4, hf⟩ := gb hf
  refine g_callV0 (st1 := [.int x3, .int x2]) [.int x2] hx hb hml hown hts hR hS kvJ0_335 (mJ0_coder_7d493 l h4) (oJ0_coder_7d493 h4) ⟨rfl, rfl, Nat.le_of_ble_eq_true rfl, Nat.le_of_ble_eq_true rfl⟩ hl.1 rfl (Nat.le_of_ble_eq_true rfl) dJ0_length_8abf5_6 ⟨Nat.zero_le _, Nat.zero_le _⟩ rfl rfl (fun H locs hR hS => ?_)
  refine lv_ishr hx hb dJ0_length_8abf5_9 ?_
  have hf := Option.some.inj hf
  subst hf
  exact g_iret hx hb hr hlocks hR hS dJ0_length_8abf5_10 rfl rfl
theorem oJ0_isLatin1_aae02 {v : Nat → Nat} {G : gH} {a0 : Nat} {r : Int32} (h : fJ0_isLatin1_aae02 v G a0 = some r) : gOb G a0 1000 = some () := by
  unfold fJ0_isLatin1_aae02 at h
  obtain ⟨u, hu, -⟩ := gb h
  exact hu
set_option maxHeartbeats 4000000 in
set_option maxRecDepth 100000 in
theorem mJ0_isLatin1_aae02 (l : Launch) {B0 : Nat} {D : va_G} {v : Nat → Nat} {G : gH} {a0 : Nat} {r : Int32} (hf : fJ0_isLatin1_aae02 v G a0 = some r) : Met l yJ0_isLatin1_aae02 (.code yJ0_isLatin1_aae02 cJ0_isLatin1_aae02 1 (some .boolean) :: gW) ({ frames := 0, cells := 0, slots := 0, locals := 0 } : Room) (gPre B0 D v [.ref a0] G) (gQ B0 D v (some (.int r)) G) 0 0 (gA B0) := by
  refine g_met (lv := [(0, .ref a0)]) (by decide) (Nat.le_of_ble_eq_true rfl) rfl ?_
  intro p e s m below meth c hM hR ls hl
  obtain ⟨hx, hb, hr, hml, hown, hts, hlocks, hnm⟩ := id hM
  have hS : va_S (gA B0) s.heap s.heap [] := va_S.rf
  unfold fJ0_isLatin1_aae02 at hf
  obtain ⟨-, -, hf⟩ := gb hf
  refine g_gets (i := 6) hx hb hts hown hR rfl rfl kgJ0_38 dJ0_isLatin1_aae02_0 ?_
  refine g_if_eq (tgt := 17) hx hb dJ0_isLatin1_aae02_3 (by decide) hf (fun h1 hf => ?_) (fun h1 hf => ?_)
  · refine lv_iconst (v := (0 : Int32)) hx hb dJ0_isLatin1_aae02_17 (by decide) ?_
    refine g_zz hf (fun h2 _ hf => ?_)
    have hf := Option.some.inj hf
    subst hf
    exact g_zret hx hb hr hlocks hR hS dJ0_isLatin1_aae02_18 h2 rfl rfl
  · refine lv_aload_n hx hb dJ0_isLatin1_aae02_6 rfl (lv_at hl 0 rfl) ?_
    refine g_getI hx hb hts hown hR lkJ0_15 dJ0_isLatin1_aae02_7 hf (fun x3 hf => ?_)
    refine g_if_ne (tgt := 17) hx hb dJ0_isLatin1_aae02_10 (by decide) hf (fun h4 hf => ?_) (fun h4 hf => ?_)
    · refine lv_iconst (v := (0 : Int32)) hx hb dJ0_isLatin1_aae02_17 (by decide) ?_
      refine g_zz hf (fun h5 _ hf => ?_)
      have hf := Option.some.inj hf
      subst hf
      exact g_zret hx hb hr hlocks hR hS dJ0_isLatin1_aae02_18 h5 rfl rfl
    · refine lv_iconst (v := (1 : Int32)) hx hb dJ0_isLatin1_aae02_13 (by decide) ?_
      refine lv_goto (tgt := 18) hx hb dJ0_isLatin1_aae02_14 (by decide) ?_
      refine g_zz hf (fun h6 _ hf => ?_)
      have hf := Option.some.inj hf
      subst hf
      exact g_zret hx hb hr hlocks hR hS dJ0_isLatin1_aae02_18 h6 rfl rfl
set_option maxHeartbeats 4000000 in
set_option maxRecDepth 100000 in
theorem mJ1_charAt_3b067 (l : Launch) {B0 : Nat} {D : va_G} {v : Nat → Nat} {G : gH} {a0 : Nat} {a1 : Int32} {r : Int32} (hf : fJ1_charAt_3b067 v G a0 a1 = some r) : Met l yJ1_charAt_3b067 (.code yJ1_charAt_3b067 cJ1_charAt_3b067 2 (some .char) :: gW) ({ frames := 2, cells := 0, slots := 0, locals := 43 } : Room) (gPre B0 D v [.ref a0, .int a1] G) (gQ B0 D v (some (.int r)) G) 0 0 (gA B0) := by
  refine g_met (lv := [(0, .ref a0), (1, .int a1)]) (by decide) (Nat.le_of_ble_eq_true rfl) rfl ?_
  intro p e s m below meth c hM hR ls hl
  obtain ⟨hx, hb, hr, hml, hown, hts, hlocks, hnm⟩ := id hM
  have hS : va_S (gA B0) s.heap s.heap [] := va_S.rf
  unfold fJ1_charAt_3b067 at hf
  refine lv_iload_n hx hb dJ1_charAt_3b067_0 rfl (lv_at hl 1 rfl) ?_
  refine lv_aload_n hx hb dJ1_charAt_3b067_1 rfl (lv_at hl 0 rfl) ?_
  refine g_lenW hx hb hR dJ1_charAt_3b067_2 hf (fun x1 hf => ?_)
  obtain ⟨x2, h3, hf⟩ := gb hf
  refine g_callS0 (st1 := []) [] hx hb hml hown hts hR hS ksJ1_9 (mJ0_checkIndex_df160 l h3) ⟨rfl, rfl, Nat.le_of_ble_eq_true rfl, Nat.le_of_ble_eq_true rfl⟩ hl.1 rfl (Nat.le_of_ble_eq_true rfl) dJ1_charAt_3b067_3 ⟨Nat.zero_le _, Nat.zero_le _⟩ rfl rfl (fun H locs hR hS => ?_)
  refine lv_aload_n hx hb dJ1_charAt_3b067_6 rfl (lv_at hl 0 rfl) ?_
  refine lv_iload_n hx hb dJ1_charAt_3b067_7 rfl (lv_at hl 1 rfl) ?_
  refine g_bald hx hb hR dJ1_charAt_3b067_8 hf (fun x4 hf => ?_)
  refine lv_sipush (v := (255 : Int32)) hx hb dJ1_charAt_3b067_9 (by decide) ?_
  refine lv_iand hx hb dJ1_charAt_3b067_12 ?_
  refine lv_i2c hx hb dJ1_charAt_3b067_13 rfl ?_
  refine g_nn hf (fun h5 hf => ?_)
  have hf := Option.some.inj hf
  subst hf
  exact g_zret hx hb hr hlocks hR hS dJ1_charAt_3b067_14 h5 rfl rfl
theorem oJ0_charAt_5068e {v : Nat → Nat} {G : gH} {a0 : Nat} {a1 : Int32} {r : Int32} (h : fJ0_charAt_5068e v G a0 a1 = some r) : gOb G a0 1000 = some () := by
  unfold fJ0_charAt_5068e at h
  obtain ⟨u, hu, -⟩ := gb h
  exact hu
set_option maxHeartbeats 4000000 in
set_option maxRecDepth 100000 in
theorem mJ0_charAt_5068e (l : Launch) {B0 : Nat} {D : va_G} {v : Nat → Nat} {G : gH} {a0 : Nat} {a1 : Int32} {r : Int32} (hf : fJ0_charAt_5068e v G a0 a1 = some r) : Met l yJ0_charAt_5068e (.code yJ0_charAt_5068e cJ0_charAt_5068e 2 (some .char) :: gW) ({ frames := 4, cells := 0, slots := 0, locals := 85 } : Room) (gPre B0 D v [.ref a0, .int a1] G) (gQ B0 D v (some (.int r)) G) 0 0 (gA B0) := by
  refine g_met (lv := [(0, .ref a0), (1, .int a1)]) (by decide) (Nat.le_of_ble_eq_true rfl) rfl ?_
  intro p e s m below meth c hM hR ls hl
  obtain ⟨hx, hb, hr, hml, hown, hts, hlocks, hnm⟩ := id hM
  have hS : va_S (gA B0) s.heap s.heap [] := va_S.rf
  unfold fJ0_charAt_5068e at hf
  obtain ⟨-, -, hf⟩ := gb hf
  refine lv_aload_n hx hb dJ0_charAt_5068e_0 rfl (lv_at hl 0 rfl) ?_
  obtain ⟨x1, h2, hf⟩ := gb hf
  refine g_callV0 (st1 := [.int x1]) [] hx hb hml hown hts hR hS kvJ0_492 (mJ0_isLatin1_aae02 l h2) (oJ0_isLatin1_aae02 h2) ⟨rfl, rfl, Nat.le_of_ble_eq_true rfl, Nat.le_of_ble_eq_true rfl⟩ hl.1 rfl (Nat.le_of_ble_eq_true rfl) dJ0_charAt_5068e_1 ⟨Nat.zero_le _, Nat.zero_le _⟩ rfl rfl (fun H locs hR hS => ?_)
  refine g_if_eq (tgt := 16) hx hb dJ0_charAt_5068e_4 (by decide) hf (fun h3 hf => ?_) (fun h3 hf => ?_)
  · refine lv_aload_n hx hb dJ0_charAt_5068e_16 rfl (lv_at hl 0 rfl) ?_
    refine g_getR hx hb hts hown hR lkJ0_9 dJ0_charAt_5068e_17 hf (fun x4 hf => ?_)
    refine lv_iload_n hx hb dJ0_charAt_5068e_20 rfl (lv_at hl 1 rfl) ?_
    cases hf
  · refine lv_aload_n hx hb dJ0_charAt_5068e_7 rfl (lv_at hl 0 rfl) ?_
    refine g_getR hx hb hts hown hR lkJ0_9 dJ0_charAt_5068e_8 hf (fun x5 hf => ?_)
    refine lv_iload_n hx hb dJ0_charAt_5068e_11 rfl (lv_at hl 1 rfl) ?_
    obtain ⟨x6, h7, hf⟩ := gb hf
    refine g_callS0 (st1 := [.int x6]) [] hx hb hml hown hts hR hS ksJ0_495 (mJ1_charAt_3b067 l h7) ⟨rfl, rfl, Nat.le_of_ble_eq_true rfl, Nat.le_of_ble_eq_true rfl⟩ hl.1 rfl (Nat.le_of_ble_eq_true rfl) dJ0_charAt_5068e_12 ⟨Nat.zero_le _, Nat.zero_le _⟩ rfl rfl (fun H locs hR hS => ?_)
    refine g_nn hf (fun h8 hf => ?_)
    have hf := Option.some.inj hf
    subst hf
    exact g_zret hx hb hr hlocks hR hS dJ0_charAt_5068e_15 h8 rfl rfl
set_option maxHeartbeats 4000000 in
set_option maxRecDepth 100000 in
theorem wX7_holds_15 {p : Program} {l : Launch} {e : Env} {s : State} {m : MethodId} {args : Array Value} {below : List Frame} {meth : Method} {c : Code} {B0 : Nat} {D : va_G} {v : Nat → Nat} {r : Int32} {G : gH} (hM : gM p s m args meth c cX7_holds 5 RX7 "holds" (some .boolean)) : ∀ (n : Nat) (y0 : Nat) (y1 : Int32) (y3 : Nat) (y4 : Int32), lX7_holds_15 v G n y0 y1 y3 y4 = some r → ∀ (H : Heap) (locs : List Loc), gRep B0 D v G s H → va_S (gA B0) s.heap H locs → ∀ (ls : Array Slot), lv_has ls 5 [(0, .ref y0), (1, .int y1), (3, .ref y3), (4, .int y4)] → W p l e ({ frames := 5, cells := 0, slots := 0, locals := 106 } : Room) s m args below meth c H locs 0 0 (MQ below (gQ B0 D v (some (.int r)) G) args s 0 0 (gA B0)) (F0 m 15 ls []) := by
  obtain ⟨hx, hb, hr, hml, hown, hts, hlocks, hnm⟩ := id hM
  intro n
  induction n with
  | zero => intro y0 y1 y3 y4 hf; cases hf
  | succ n ih =>
    intro y0 y1 y3 y4 hf H locs hR hS ls hl
    have hK : ∀ (K : Nat → Int32 → Nat → Int32 → Option Int32), K = lX7_holds_15 v G n → (∀ (q0 : Nat) (q1 : Int32) (q3 : Nat) (q4 : Int32) (H : Heap) (locs : List Loc) (ls : Array Slot), K q0 q1 q3 q4 = some r → gRep B0 D v G s H → va_S (gA B0) s.heap H locs → lv_has ls 5 [(0, .ref q0), (1, .int q1), (3, .ref q3), (4, .int q4)] → W p l e ({ frames := 5, cells := 0, slots := 0, locals := 106 } : Room) s m args below meth c H locs 0 0 (MQ below (gQ B0 D v (some (.int r)) G) args s 0 0 (gA B0)) (F0 m 15 ls [])) := fun K hk q0 q1 q3 q4 H locs ls h1 h2 h3 h4 => ih q0 q1 q3 q4 (by rw [← hk]; exact h1) H locs h2 h3 ls h4
    have hf : bX7_holds_15 v G (lX7_holds_15 v G n) y0 y1 y3 y4 = some r := hf
    have hK := hK _ rfl
    generalize lX7_holds_15 v G n = K at hf hK
    unfold bX7_holds_15 at hf
    refine lv_iload hx hb dX7_holds_15 (lv_at hl 3 rfl) ?_
    refine lv_aload_n hx hb dX7_holds_17 rfl (lv_at hl 2 rfl) ?_
    obtain ⟨x1, h2, hf⟩ := gb hf
    refine g_callV0 (st1 := [.int x1, .int y4]) [.int y4] hx hb hml hown hts hR hS kvX7_37 (mJ0_length_8abf5 l h2) (oJ0_length_8abf5 h2) ⟨rfl, rfl, Nat.le_of_ble_eq_true rfl, Nat.le_of_ble_eq_true rfl⟩ hl.1 rfl (Nat.le_of_ble_eq_true rfl) dX7_holds_18 ⟨Nat.zero_le _, Nat.zero_le _⟩ rfl rfl (fun H locs hR hS => ?_)
    refine g_icmp_ge (tgt := 49) hx hb dX7_holds_21 (by decide) hf (fun h3 hf => ?_) (fun h3 hf => ?_)
    · refine lv_iconst (v := (1 : Int32)) hx hb dX7_holds_49 (by decide) ?_
      refine g_zz hf (fun h4 _ hf => ?_)
      have hf := Option.some.inj hf
      subst hf
      exact g_zret hx hb hr hlocks hR hS dX7_holds_50 h4 rfl rfl
    · refine lv_aload_n hx hb dX7_holds_24 rfl (lv_at hl 0 rfl) ?_
      refine lv_iload_n hx hb dX7_holds_25 rfl (lv_at hl 1 rfl) ?_
      refine lv_iload hx hb dX7_holds_26 (lv_at hl 3 rfl) ?_
      refine lv_iadd hx hb dX7_holds_28 ?_
      obtain ⟨x5, h6, hf⟩ := gb hf
      refine g_callV0 (st1 := [.int x5]) [] hx hb hml hown hts hR hS kvX7_33 (mX7_at l h6) (oX7_at h6) ⟨rfl, rfl, Nat.le_of_ble_eq_true rfl, Nat.le_of_ble_eq_true rfl⟩ hl.1 rfl (Nat.le_of_ble_eq_true rfl) dX7_holds_29 ⟨Nat.zero_le _, Nat.zero_le _⟩ rfl rfl (fun H locs hR hS => ?_)
      refine lv_aload_n hx hb dX7_holds_32 rfl (lv_at hl 2 rfl) ?_
      refine lv_iload hx hb dX7_holds_33 (lv_at hl 3 rfl) ?_
      obtain ⟨x7, h8, hf⟩ := gb hf
      refine g_callV0 (st1 := [.int x7, .int x5]) [.int x5] hx hb hml hown hts hR hS kvX7_43 (mJ0_charAt_5068e l h8) (oJ0_charAt_5068e h8) ⟨rfl, rfl, Nat.le_of_ble_eq_true rfl, Nat.le_of_ble_eq_true rfl⟩ hl.1 rfl (Nat.le_of_ble_eq_true rfl) dX7_holds_35 ⟨Nat.zero_le _, Nat.zero_le _⟩ rfl rfl (fun H locs hR hS => ?_)
      refine g_icmp_eq (tgt := 43) hx hb dX7_holds_38 (by decide) hf (fun h9 hf => ?_) (fun h9 hf => ?_)
      · refine g_iinc (k := 3) (n' := (1 : Int32)) (lv2 := [(0, .ref y0), (1, .int y1), (3, .ref y3)]) hx hb dX7_holds_43 hl rfl (by decide) (by decide) rfl hf (fun x10 ls hf hl => ?_)
        refine lv_goto (tgt := 15) hx hb dX7_holds_46 (by decide) ?_
        exact hK y0 y1 y3 x10 _ _ ls hf hR hS (lv_sub hl [1, 2, 3, 0] rfl)
      · refine lv_iconst (v := (0 : Int32)) hx hb dX7_holds_41 (by decide) ?_
        refine g_zz hf (fun h11 _ hf => ?_)
        have hf := Option.some.inj hf
        subst hf
        exact g_zret hx hb hr hlocks hR hS dX7_holds_42 h11 rfl rfl
theorem oX7_holds {v : Nat → Nat} {G : gH} {a0 : Nat} {a1 : Int32} {a2 : Int32} {a3 : Nat} {r : Int32} (h : fX7_holds v G a0 a1 a2 a3 = some r) : gOb G a0 7 = some () := by
  unfold fX7_holds at h
  obtain ⟨u, hu, -⟩ := gb h
  exact hu
set_option maxHeartbeats 4000000 in
set_option maxRecDepth 100000 in
theorem mX7_holds (l : Launch) {B0 : Nat} {D : va_G} {v : Nat → Nat} {G : gH} {a0 : Nat} {a1 : Int32} {a2 : Int32} {a3 : Nat} {r : Int32} (hf : fX7_holds v G a0 a1 a2 a3 = some r) : Met l yX7_holds (.code yX7_holds cX7_holds 5 (some .boolean) :: gW) ({ frames := 5, cells := 0, slots := 0, locals := 106 } : Room) (gPre B0 D v [.ref a0, .int a1, .int a2, .ref a3] G) (gQ B0 D v (some (.int r)) G) 0 0 (gA B0) := by
  refine g_met (lv := [(0, .ref a0), (1, .int a1), (2, .int a2), (3, .ref a3)]) (by decide) (Nat.le_of_ble_eq_true rfl) rfl ?_
  intro p e s m below meth c hM hR ls hl
  obtain ⟨hx, hb, hr, hml, hown, hts, hlocks, hnm⟩ := id hM
  have hS : va_S (gA B0) s.heap s.heap [] := va_S.rf
  unfold fX7_holds at hf
  obtain ⟨-, -, hf⟩ := gb hf
  refine lv_iload_n hx hb dX7_holds_0 rfl (lv_at hl 2 rfl) ?_
  refine lv_iload_n hx hb dX7_holds_1 rfl (lv_at hl 1 rfl) ?_
  refine lv_isub hx hb dX7_holds_2 ?_
  refine lv_aload_n hx hb dX7_holds_3 rfl (lv_at hl 3 rfl) ?_
  obtain ⟨x1, h2, hf⟩ := gb hf
  refine g_callV0 (st1 := [.int x1, .int (a2 - a1)]) [.int (a2 - a1)] hx hb hml hown hts hR hS kvX7_37 (mJ0_length_8abf5 l h2) (oJ0_length_8abf5 h2) ⟨rfl, rfl, Nat.le_of_ble_eq_true rfl, Nat.le_of_ble_eq_true rfl⟩ hl.1 rfl (Nat.le_of_ble_eq_true rfl) dX7_holds_4 ⟨Nat.zero_le _, Nat.zero_le _⟩ rfl rfl (fun H locs hR hS => ?_)
  refine g_icmp_eq (tgt := 12) hx hb dX7_holds_7 (by decide) hf (fun h3 hf => ?_) (fun h3 hf => ?_)
  · refine lv_iconst (v := (0 : Int32)) hx hb dX7_holds_12 (by decide) ?_
    refine lv_istore (lv' := [(4, .int (0 : Int32)), (0, .ref a0), (1, .int a1), (2, .int a2), (3, .ref a3)]) hx hb dX7_holds_13 hl (by decide) rfl (fun ls hl => ?_)
    exact wX7_holds_15 hM gFu a0 a1 a3 (0 : Int32) hf _ _ hR hS ls (lv_sub hl [1, 2, 4, 0] rfl)
  · refine lv_iconst (v := (0 : Int32)) hx hb dX7_holds_10 (by decide) ?_
    refine g_zz hf (fun h4 _ hf => ?_)
    have hf := Option.some.inj hf
    subst hf
    exact g_zret hx hb hr hlocks hR hS dX7_holds_11 h4 rfl rfl
theorem oX1_hasMagic {v : Nat → Nat} {G : gH} {a0 : Nat} {a1 : Int32} {r : Int32} (h : fX1_hasMagic v G a0 a1 = some r) : gOb G a0 1 = some () := by
  unfold fX1_hasMagic at h
  obtain ⟨u, hu, -⟩ := gb h
  exact hu
set_option maxHeartbeats 4000000 in
set_option maxRecDepth 100000 in
theorem mX1_hasMagic (l : Launch) {B0 : Nat} {D : va_G} {v : Nat → Nat} {G : gH} {a0 : Nat} {a1 : Int32} {r : Int32} (hf : fX1_hasMagic v G a0 a1 = some r) : Met l yX1_hasMagic (.code yX1_hasMagic cX1_hasMagic 2 (some .boolean) :: gW) ({ frames := 6, cells := 0, slots := 0, locals := 130 } : Room) (gPre B0 D v [.ref a0, .int a1] G) (gQ B0 D v (some (.int r)) G) 0 0 (gA B0) := by
  refine g_met (lv := [(0, .ref a0), (1, .int a1)]) (by decide) (Nat.le_of_ble_eq_true rfl) rfl ?_
  intro p e s m below meth c hM hR ls hl
  obtain ⟨hx, hb, hr, hml, hown, hts, hlocks, hnm⟩ := id hM
  have hS : va_S (gA B0) s.heap s.heap [] := va_S.rf
  unfold fX1_hasMagic at hf
  obtain ⟨-, -, hf⟩ := gb hf
  refine lv_aload_n hx hb dX1_hasMagic_0 rfl (lv_at hl 0 rfl) ?_
  refine g_getR hx hb hts hown hR lkX1_41 dX1_hasMagic_1 hf (fun x1 hf => ?_)
  refine lv_iload_n hx hb dX1_hasMagic_4 rfl (lv_at hl 1 rfl) ?_
  refine lv_sipush (v := (257 : Int32)) hx hb dX1_hasMagic_5 (by decide) ?_
  refine lv_iadd hx hb dX1_hasMagic_8 ?_
  refine lv_iload_n hx hb dX1_hasMagic_9 rfl (lv_at hl 1 rfl) ?_
  refine lv_sipush (v := (257 : Int32)) hx hb dX1_hasMagic_10 (by decide) ?_
  refine lv_iadd hx hb dX1_hasMagic_13 ?_
  refine lv_iconst (v := (5 : Int32)) hx hb dX1_hasMagic_14 (by decide) ?_
  refine lv_iadd hx hb dX1_hasMagic_15 ?_
  refine g_ldcS (i := 0) (q := ("TarForms$ArchiveReader", 211, "ustar", 10)) hx hb hown hR rfl rfl rfl dX1_hasMagic_16 ?_
  obtain ⟨x2, h3, hf⟩ := gb hf
  refine g_callV0 (st1 := [.int x2]) [] hx hb hml hown hts hR hS kvX1_213 (mX7_holds l h3) (oX7_holds h3) ⟨rfl, rfl, Nat.le_of_ble_eq_true rfl, Nat.le_of_ble_eq_true rfl⟩ hl.1 rfl (Nat.le_of_ble_eq_true rfl) dX1_hasMagic_18 ⟨Nat.zero_le _, Nat.zero_le _⟩ rfl rfl (fun H locs hR hS => ?_)
  refine g_zz hf (fun h4 _ hf => ?_)
  have hf := Option.some.inj hf
  subst hf
  exact g_zret hx hb hr hlocks hR hS dX1_hasMagic_21 h4 rfl rfl
theorem oX1_addField {v : Nat → Nat} {G : gH} {a0 : Nat} {a1 : Nat} {a2 : Int32} {a3 : Int32} {r : gH} (h : fX1_addField v G a0 a1 a2 a3 = some r) : gOb G a0 1 = some () := by
  unfold fX1_addField at h
  obtain ⟨u, hu, -⟩ := gb h
  exact hu
set_option maxHeartbeats 4000000 in
set_option maxRecDepth 100000 in
theorem mX1_addField (l : Launch) {B0 : Nat} {D : va_G} {v : Nat → Nat} {G : gH} {a0 : Nat} {a1 : Nat} {a2 : Int32} {a3 : Int32} {r : gH} (hf : fX1_addField v G a0 a1 a2 a3 = some r) : Met l yX1_addField (.code yX1_addField cX1_addField 4 none :: gW) ({ frames := 2, cells := 0, slots := 0, locals := 45 } : Room) (gPre B0 D v [.ref a0, .ref a1, .int a2, .int a3] G) (gQ B0 D v none r) 0 0 (gA B0) := by
  refine g_met (lv := [(0, .ref a0), (1, .ref a1), (2, .int a2), (3, .int a3)]) (by decide) (Nat.le_of_ble_eq_true rfl) rfl ?_
  intro p e s m below meth c hM hR ls hl
  obtain ⟨hx, hb, hr, hml, hown, hts, hlocks, hnm⟩ := id hM
  have hS : va_S (gA B0) s.heap s.heap [] := va_S.rf
  unfold fX1_addField at hf
  obtain ⟨-, -, hf⟩ := gb hf
  refine lv_aload_n hx hb dX1_addField_0 rfl (lv_at hl 1 rfl) ?_
  refine lv_aload_n hx hb dX1_addField_1 rfl (lv_at hl 0 rfl) ?_
  refine g_getR hx hb hts hown hR lkX1_41 dX1_addField_2 hf (fun x1 hf => ?_)
  refine lv_iload_n hx hb dX1_addField_5 rfl (lv_at hl 2 rfl) ?_
  refine lv_aload_n hx hb dX1_addField_6 rfl (lv_at hl 0 rfl) ?_
  refine g_getR hx hb hts hown hR lkX1_41 dX1_addField_7 hf (fun x2 hf => ?_)
  refine lv_iconst (v := (0 : Int32)) hx hb dX1_addField_10 (by decide) ?_
  refine lv_iload_n hx hb dX1_addField_11 rfl (lv_at hl 2 rfl) ?_
  refine lv_iload_n hx hb dX1_addField_12 rfl (lv_at hl 2 rfl) ?_
  refine lv_iload_n hx hb dX1_addField_13 rfl (lv_at hl 3 rfl) ?_
  refine lv_iadd hx hb dX1_addField_14 ?_
  obtain ⟨x3, h4, hf⟩ := gb hf
  refine g_callV0 (st1 := [.int x3, .int a2, .ref x1, .ref a1]) [.int a2, .ref x1, .ref a1] hx hb hml hown hts hR hS kvX1_139 (mX7_find l h4) (oX7_find h4) ⟨rfl, rfl, Nat.le_of_ble_eq_true rfl, Nat.le_of_ble_eq_true rfl⟩ hl.1 rfl (Nat.le_of_ble_eq_true rfl) dX1_addField_15 ⟨Nat.zero_le _, Nat.zero_le _⟩ rfl rfl (fun H locs hR hS => ?_)
  obtain ⟨x5, h6, hf⟩ := gb hf
  refine g_callV0 (st1 := []) [] hx hb hml hown hts hR hS kvX1_200 (mX7_addPart l h6) (oX7_addPart h6) ⟨rfl, rfl, Nat.le_of_ble_eq_true rfl, Nat.le_of_ble_eq_true rfl⟩ hl.1 rfl (Nat.le_of_ble_eq_true rfl) dX1_addField_18 ⟨Nat.zero_le _, Nat.zero_le _⟩ rfl rfl (fun H locs hR hS => ?_)
  have hf := Option.some.inj hf
  subst hf
  exact g_vret hx hb hr hlocks hR hS dX1_addField_21 rfl
set_option maxHeartbeats 4000000 in
set_option maxRecDepth 100000 in
theorem uX1_takeName_104 {p : Program} {l : Launch} {e : Env} {s : State} {m : MethodId} {args : Array Value} {below : List Frame} {meth : Method} {c : Code} {B0 : Nat} {D : va_G} {v : Nat → Nat} {r : gH} (hM : gM p s m args meth c cX1_takeName 4 RX1 "takeName" none) (G : gH) (y0 : Nat) (y1 : Nat) (y2 : Int32) (hf : jX1_takeName_104 v G y0 y1 y2 = some r) (H : Heap) (locs : List Loc) (hR : gRep B0 D v G s H) (hS : va_S (gA B0) s.heap H locs) (ls : Array Slot) (hl : lv_has ls 4 [(0, .ref y0), (1, .ref y1), (2, .int y2)]) : W p l e ({ frames := 7, cells := 0, slots := 0, locals := 151 } : Room) s m args below meth c H locs 0 0 (MQ below (gQ B0 D v none r) args s 0 0 (gA B0)) (F0 m 104 ls []) := by
  obtain ⟨hx, hb, hr, hml, hown, hts, hlocks, hnm⟩ := id hM
  unfold jX1_takeName_104 at hf
  refine lv_aload_n hx hb dX1_takeName_104 rfl (lv_at hl 0 rfl) ?_
  refine lv_aload_n hx hb dX1_takeName_105 rfl (lv_at hl 1 rfl) ?_
  refine lv_iload_n hx hb dX1_takeName_106 rfl (lv_at hl 2 rfl) ?_
  refine lv_iconst (v := (0 : Int32)) hx hb dX1_takeName_107 (by decide) ?_
  refine lv_iadd hx hb dX1_takeName_108 ?_
  refine lv_bipush (v := (100 : Int32)) hx hb dX1_takeName_109 (by decide) ?_
  obtain ⟨x1, h2, hf⟩ := gb hf
  refine g_callV0 (st1 := []) [] hx hb hml hown hts hR hS kvX1_204 (mX1_addField l h2) (oX1_addField h2) ⟨rfl, rfl, Nat.le_of_ble_eq_true rfl, Nat.le_of_ble_eq_true rfl⟩ hl.1 rfl (Nat.le_of_ble_eq_true rfl) dX1_takeName_111 ⟨Nat.zero_le _, Nat.zero_le _⟩ rfl rfl (fun H locs hR hS => ?_)
  have hf := Option.some.inj hf
  subst hf
  exact g_vret hx hb hr hlocks hR hS dX1_takeName_114 rfl
set_option maxHeartbeats 4000000 in
set_option maxRecDepth 100000 in
theorem uX1_takeName_91 {p : Program} {l : Launch} {e : Env} {s : State} {m : MethodId} {args : Array Value} {below : List Frame} {meth : Method} {c : Code} {B0 : Nat} {D : va_G} {v : Nat → Nat} {r : gH} (hM : gM p s m args meth c cX1_takeName 4 RX1 "takeName" none) (G : gH) (y0 : Nat) (y1 : Nat) (y2 : Int32) (hf : jX1_takeName_91 v G y0 y1 y2 = some r) (H : Heap) (locs : List Loc) (hR : gRep B0 D v G s H) (hS : va_S (gA B0) s.heap H locs) (ls : Array Slot) (hl : lv_has ls 4 [(0, .ref y0), (1, .ref y1), (2, .int y2)]) : W p l e ({ frames := 7, cells := 0, slots := 0, locals := 151 } : Room) s m args below meth c H locs 0 0 (MQ below (gQ B0 D v none r) args s 0 0 (gA B0)) (F0 m 91 ls []) := by
  obtain ⟨hx, hb, hr, hml, hown, hts, hlocks, hnm⟩ := id hM
  unfold jX1_takeName_91 at hf
  refine lv_aload_n hx hb dX1_takeName_91 rfl (lv_at hl 1 rfl) ?_
  obtain ⟨x1, h2, hf⟩ := gb hf
  refine g_callV0 (st1 := [.int x1]) [] hx hb hml hown hts hR hS kvX1_68 (mX7_count l h2) (oX7_count h2) ⟨rfl, rfl, Nat.le_of_ble_eq_true rfl, Nat.le_of_ble_eq_true rfl⟩ hl.1 rfl (Nat.le_of_ble_eq_true rfl) dX1_takeName_92 ⟨Nat.zero_le _, Nat.zero_le _⟩ rfl rfl (fun H locs hR hS => ?_)
  refine g_if_le (tgt := 104) hx hb dX1_takeName_95 (by decide) hf (fun h3 hf => ?_) (fun h3 hf => ?_)
  · exact uX1_takeName_104 hM G y0 y1 y2 hf _ _ hR hS ls (lv_sub hl [0, 1, 2] rfl)
  · refine lv_aload_n hx hb dX1_takeName_98 rfl (lv_at hl 1 rfl) ?_
    refine lv_bipush (v := (47 : Int32)) hx hb dX1_takeName_99 (by decide) ?_
    obtain ⟨x4, h5, hf⟩ := gb hf
    refine g_callV0 (st1 := []) [] hx hb hml hown hts hR hS kvX1_207 (mX7_add l h5) (oX7_add h5) ⟨rfl, rfl, Nat.le_of_ble_eq_true rfl, Nat.le_of_ble_eq_true rfl⟩ hl.1 rfl (Nat.le_of_ble_eq_true rfl) dX1_takeName_101 ⟨Nat.zero_le _, Nat.zero_le _⟩ rfl rfl (fun H locs hR hS => ?_)
    exact uX1_takeName_104 hM x4 y0 y1 y2 hf _ _ hR hS ls (lv_sub hl [0, 1, 2] rfl)
set_option maxHeartbeats 4000000 in
set_option maxRecDepth 100000 in
theorem uX1_takeName_34 {p : Program} {l : Launch} {e : Env} {s : State} {m : MethodId} {args : Array Value} {below : List Frame} {meth : Method} {c : Code} {B0 : Nat} {D : va_G} {v : Nat → Nat} {r : gH} (hM : gM p s m args meth c cX1_takeName 4 RX1 "takeName" none) (G : gH) (y0 : Nat) (y1 : Nat) (y2 : Int32) (z0 : Nat) (hf : jX1_takeName_34 v G y0 y1 y2 z0 = some r) (H : Heap) (locs : List Loc) (hR : gRep B0 D v G s H) (hS : va_S (gA B0) s.heap H locs) (ls : Array Slot) (hl : lv_has ls 4 [(0, .ref y0), (1, .ref y1), (2, .int y2)]) : W p l e ({ frames := 7, cells := 0, slots := 0, locals := 151 } : Room) s m args below meth c H locs 0 0 (MQ below (gQ B0 D v none r) args s 0 0 (gA B0)) (F0 m 34 ls [.ref z0]) := by
  obtain ⟨hx, hb, hr, hml, hown, hts, hlocks, hnm⟩ := id hM
  unfold jX1_takeName_34 at hf
  refine lv_astore_n (lv' := [(3, .ref z0), (0, .ref y0), (1, .ref y1), (2, .int y2)]) hx hb dX1_takeName_34 rfl hl (by decide) rfl (fun ls hl => ?_)
  refine lv_aload_n hx hb dX1_takeName_35 rfl (lv_at hl 0 rfl) ?_
  obtain ⟨x1, h2, hf⟩ := gb hf
  refine g_callV0 (st1 := [.int x1]) [] hx hb hml hown hts hR hS kvX1_68 (mX7_count l h2) (oX7_count h2) ⟨rfl, rfl, Nat.le_of_ble_eq_true rfl, Nat.le_of_ble_eq_true rfl⟩ hl.1 rfl (Nat.le_of_ble_eq_true rfl) dX1_takeName_36 ⟨Nat.zero_le _, Nat.zero_le _⟩ rfl rfl (fun H locs hR hS => ?_)
  refine g_if_le (tgt := 53) hx hb dX1_takeName_39 (by decide) hf (fun h3 hf => ?_) (fun h3 hf => ?_)
  · refine lv_aload_n hx hb dX1_takeName_53 rfl (lv_at hl 1 rfl) ?_
    refine lv_iload_n hx hb dX1_takeName_54 rfl (lv_at hl 3 rfl) ?_
    obtain ⟨x4, h5, hf⟩ := gb hf
    refine g_callV0 (st1 := [.int x4]) [] hx hb hml hown hts hR hS kvX1_155 (mX1_hasMagic l h5) (oX1_hasMagic h5) ⟨rfl, rfl, Nat.le_of_ble_eq_true rfl, Nat.le_of_ble_eq_true rfl⟩ hl.1 rfl (Nat.le_of_ble_eq_true rfl) dX1_takeName_55 ⟨Nat.zero_le _, Nat.zero_le _⟩ rfl rfl (fun H locs hR hS => ?_)
    refine g_if_eq (tgt := 91) hx hb dX1_takeName_58 (by decide) hf (fun h6 hf => ?_) (fun h6 hf => ?_)
    · exact uX1_takeName_91 hM G y0 y1 y2 hf _ _ hR hS ls (lv_sub hl [1, 2, 3] rfl)
    · refine lv_aload_n hx hb dX1_takeName_61 rfl (lv_at hl 1 rfl) ?_
      refine g_getR hx hb hts hown hR lkX1_41 dX1_takeName_62 hf (fun x7 hf => ?_)
      refine lv_iload_n hx hb dX1_takeName_65 rfl (lv_at hl 3 rfl) ?_
      refine lv_sipush (v := (257 : Int32)) hx hb dX1_takeName_66 (by decide) ?_
      refine lv_iadd hx hb dX1_takeName_69 ?_
      refine lv_iconst (v := (5 : Int32)) hx hb dX1_takeName_70 (by decide) ?_
      refine lv_iadd hx hb dX1_takeName_71 ?_
      obtain ⟨x8, h9, hf⟩ := gb hf
      refine g_callV0 (st1 := [.int x8]) [] hx hb hml hown hts hR hS kvX1_94 (mX7_at l h9) (oX7_at h9) ⟨rfl, rfl, Nat.le_of_ble_eq_true rfl, Nat.le_of_ble_eq_true rfl⟩ hl.1 rfl (Nat.le_of_ble_eq_true rfl) dX1_takeName_72 ⟨Nat.zero_le _, Nat.zero_le _⟩ rfl rfl (fun H locs hR hS => ?_)
      refine g_if_ne (tgt := 91) hx hb dX1_takeName_75 (by decide) hf (fun h10 hf => ?_) (fun h10 hf => ?_)
      · exact uX1_takeName_91 hM G y0 y1 y2 hf _ _ hR hS ls (lv_sub hl [1, 2, 3] rfl)
      · refine lv_aload_n hx hb dX1_takeName_78 rfl (lv_at hl 1 rfl) ?_
        refine lv_aload_n hx hb dX1_takeName_79 rfl (lv_at hl 2 rfl) ?_
        refine lv_iload_n hx hb dX1_takeName_80 rfl (lv_at hl 3 rfl) ?_
        refine lv_sipush (v := (345 : Int32)) hx hb dX1_takeName_81 (by decide) ?_
        refine lv_iadd hx hb dX1_takeName_84 ?_
        refine lv_sipush (v := (155 : Int32)) hx hb dX1_takeName_85 (by decide) ?_
        obtain ⟨x11, h12, hf⟩ := gb hf
        refine g_callV0 (st1 := []) [] hx hb hml hown hts hR hS kvX1_204 (mX1_addField l h12) (oX1_addField h12) ⟨rfl, rfl, Nat.le_of_ble_eq_true rfl, Nat.le_of_ble_eq_true rfl⟩ hl.1 rfl (Nat.le_of_ble_eq_true rfl) dX1_takeName_88 ⟨Nat.zero_le _, Nat.zero_le _⟩ rfl rfl (fun H locs hR hS => ?_)
        exact uX1_takeName_91 hM x11 y0 y1 y2 hf _ _ hR hS ls (lv_sub hl [1, 2, 3] rfl)
  · refine lv_aload_n hx hb dX1_takeName_42 rfl (lv_at hl 2 rfl) ?_
    refine lv_aload_n hx hb dX1_takeName_43 rfl (lv_at hl 0 rfl) ?_
    refine lv_iconst (v := (0 : Int32)) hx hb dX1_takeName_44 (by decide) ?_
    refine lv_aload_n hx hb dX1_takeName_45 rfl (lv_at hl 0 rfl) ?_
    obtain ⟨x13, h14, hf⟩ := gb hf
    refine g_callV0 (st1 := [.int x13, .int (0 : Int32), .ref z0, .ref y1]) [.int (0 : Int32), .ref z0, .ref y1] hx hb hml hown hts hR hS kvX1_68 (mX7_count l h14) (oX7_count h14) ⟨rfl, rfl, Nat.le_of_ble_eq_true rfl, Nat.le_of_ble_eq_true rfl⟩ hl.1 rfl (Nat.le_of_ble_eq_true rfl) dX1_takeName_46 ⟨Nat.zero_le _, Nat.zero_le _⟩ rfl rfl (fun H locs hR hS => ?_)
    obtain ⟨x15, h16, hf⟩ := gb hf
    refine g_callV0 (st1 := []) [] hx hb hml hown hts hR hS kvX1_200 (mX7_addPart l h16) (oX7_addPart h16) ⟨rfl, rfl, Nat.le_of_ble_eq_true rfl, Nat.le_of_ble_eq_true rfl⟩ hl.1 rfl (Nat.le_of_ble_eq_true rfl) dX1_takeName_49 ⟨Nat.zero_le _, Nat.zero_le _⟩ rfl rfl (fun H locs hR hS => ?_)
    have hf := Option.some.inj hf
    subst hf
    exact g_vret hx hb hr hlocks hR hS dX1_takeName_52 rfl
theorem oX1_takeName {v : Nat → Nat} {G : gH} {a0 : Nat} {a1 : Nat} {a2 : Int32} {r : gH} (h : fX1_takeName v G a0 a1 a2 = some r) : gOb G a0 1 = some () := by
  unfold fX1_takeName at h
  obtain ⟨u, hu, -⟩ := gb h
  exact hu
set_option maxHeartbeats 4000000 in
set_option maxRecDepth 100000 in
theorem mX1_takeName (l : Launch) {B0 : Nat} {D : va_G} {v : Nat → Nat} {G : gH} {a0 : Nat} {a1 : Nat} {a2 : Int32} {r : gH} (hf : fX1_takeName v G a0 a1 a2 = some r) : Met l yX1_takeName (.code yX1_takeName cX1_takeName 4 none :: gW) ({ frames := 7, cells := 0, slots := 0, locals := 151 } : Room) (gPre B0 D v [.ref a0, .ref a1, .int a2] G) (gQ B0 D v none r) 0 0 (gA B0) := by
  refine g_met (lv := [(0, .ref a0), (1, .ref a1), (2, .int a2)]) (by decide) (Nat.le_of_ble_eq_true rfl) rfl ?_
  intro p e s m below meth c hM hR ls hl
  obtain ⟨hx, hb, hr, hml, hown, hts, hlocks, hnm⟩ := id hM
  have hS : va_S (gA B0) s.heap s.heap [] := va_S.rf
  unfold fX1_takeName at hf
  obtain ⟨-, -, hf⟩ := gb hf
  refine lv_aload_n hx hb dX1_takeName_0 rfl (lv_at hl 1 rfl) ?_
  obtain ⟨x1, h2, hf⟩ := gb hf
  refine g_callV0 (st1 := []) [] hx hb hml hown hts hR hS kvX1_197 (mX7_empty l h2) (oX7_empty h2) ⟨rfl, rfl, Nat.le_of_ble_eq_true rfl, Nat.le_of_ble_eq_true rfl⟩ hl.1 rfl (Nat.le_of_ble_eq_true rfl) dX1_takeName_1 ⟨Nat.zero_le _, Nat.zero_le _⟩ rfl rfl (fun H locs hR hS => ?_)
  refine lv_aload_n hx hb dX1_takeName_4 rfl (lv_at hl 0 rfl) ?_
  refine g_getR hx hb hts hown hR lkX1_20 dX1_takeName_5 hf (fun x3 hf => ?_)
  refine g_getR hx hb hts hown hR lkX1_132 dX1_takeName_8 hf (fun x4 hf => ?_)
  obtain ⟨x5, h6, hf⟩ := gb hf
  refine g_callV0 (st1 := [.int x5]) [] hx hb hml hown hts hR hS kvX1_68 (mX7_count l h6) (oX7_count h6) ⟨rfl, rfl, Nat.le_of_ble_eq_true rfl, Nat.le_of_ble_eq_true rfl⟩ hl.1 rfl (Nat.le_of_ble_eq_true rfl) dX1_takeName_11 ⟨Nat.zero_le _, Nat.zero_le _⟩ rfl rfl (fun H locs hR hS => ?_)
  refine g_if_le (tgt := 27) hx hb dX1_takeName_14 (by decide) hf (fun h7 hf => ?_) (fun h7 hf => ?_)
  · refine lv_aload_n hx hb dX1_takeName_27 rfl (lv_at hl 0 rfl) ?_
    refine g_getR hx hb hts hown hR lkX1_24 dX1_takeName_28 hf (fun x8 hf => ?_)
    refine g_getR hx hb hts hown hR lkX1_132 dX1_takeName_31 hf (fun x9 hf => ?_)
    exact uX1_takeName_34 hM x1 a0 a1 a2 x9 hf _ _ hR hS ls (lv_sub hl [0, 1, 2] rfl)
  · refine lv_aload_n hx hb dX1_takeName_17 rfl (lv_at hl 0 rfl) ?_
    refine g_getR hx hb hts hown hR lkX1_20 dX1_takeName_18 hf (fun x10 hf => ?_)
    refine g_getR hx hb hts hown hR lkX1_132 dX1_takeName_21 hf (fun x11 hf => ?_)
    refine lv_goto (tgt := 34) hx hb dX1_takeName_24 (by decide) ?_
    exact uX1_takeName_34 hM x1 a0 a1 a2 x11 hf _ _ hR hS ls (lv_sub hl [0, 1, 2] rfl)
set_option maxHeartbeats 4000000 in
set_option maxRecDepth 100000 in
theorem uX1_takeLink_34 {p : Program} {l : Launch} {e : Env} {s : State} {m : MethodId} {args : Array Value} {below : List Frame} {meth : Method} {c : Code} {B0 : Nat} {D : va_G} {v : Nat → Nat} {r : gH} (hM : gM p s m args meth c cX1_takeLink 4 RX1 "takeLink" none) (G : gH) (y0 : Nat) (y1 : Nat) (y2 : Int32) (z0 : Nat) (hf : jX1_takeLink_34 v G y0 y1 y2 z0 = some r) (H : Heap) (locs : List Loc) (hR : gRep B0 D v G s H) (hS : va_S (gA B0) s.heap H locs) (ls : Array Slot) (hl : lv_has ls 4 [(0, .ref y0), (1, .ref y1), (2, .int y2)]) : W p l e ({ frames := 3, cells := 0, slots := 0, locals := 68 } : Room) s m args below meth c H locs 0 0 (MQ below (gQ B0 D v none r) args s 0 0 (gA B0)) (F0 m 34 ls [.ref z0]) := by
  obtain ⟨hx, hb, hr, hml, hown, hts, hlocks, hnm⟩ := id hM
  unfold jX1_takeLink_34 at hf
  refine lv_astore_n (lv' := [(3, .ref z0), (0, .ref y0), (1, .ref y1), (2, .int y2)]) hx hb dX1_takeLink_34 rfl hl (by decide) rfl (fun ls hl => ?_)
  refine lv_aload_n hx hb dX1_takeLink_35 rfl (lv_at hl 0 rfl) ?_
  obtain ⟨x1, h2, hf⟩ := gb hf
  refine g_callV0 (st1 := [.int x1]) [] hx hb hml hown hts hR hS kvX1_68 (mX7_count l h2) (oX7_count h2) ⟨rfl, rfl, Nat.le_of_ble_eq_true rfl, Nat.le_of_ble_eq_true rfl⟩ hl.1 rfl (Nat.le_of_ble_eq_true rfl) dX1_takeLink_36 ⟨Nat.zero_le _, Nat.zero_le _⟩ rfl rfl (fun H locs hR hS => ?_)
  refine g_if_le (tgt := 55) hx hb dX1_takeLink_39 (by decide) hf (fun h3 hf => ?_) (fun h3 hf => ?_)
  · refine lv_aload_n hx hb dX1_takeLink_55 rfl (lv_at hl 1 rfl) ?_
    refine lv_aload_n hx hb dX1_takeLink_56 rfl (lv_at hl 2 rfl) ?_
    refine lv_iload_n hx hb dX1_takeLink_57 rfl (lv_at hl 3 rfl) ?_
    refine lv_sipush (v := (157 : Int32)) hx hb dX1_takeLink_58 (by decide) ?_
    refine lv_iadd hx hb dX1_takeLink_61 ?_
    refine lv_bipush (v := (100 : Int32)) hx hb dX1_takeLink_62 (by decide) ?_
    obtain ⟨x4, h5, hf⟩ := gb hf
    refine g_callV0 (st1 := []) [] hx hb hml hown hts hR hS kvX1_204 (mX1_addField l h5) (oX1_addField h5) ⟨rfl, rfl, Nat.le_of_ble_eq_true rfl, Nat.le_of_ble_eq_true rfl⟩ hl.1 rfl (Nat.le_of_ble_eq_true rfl) dX1_takeLink_64 ⟨Nat.zero_le _, Nat.zero_le _⟩ rfl rfl (fun H locs hR hS => ?_)
    have hf := Option.some.inj hf
    subst hf
    exact g_vret hx hb hr hlocks hR hS dX1_takeLink_67 rfl
  · refine lv_aload_n hx hb dX1_takeLink_42 rfl (lv_at hl 2 rfl) ?_
    refine lv_aload_n hx hb dX1_takeLink_43 rfl (lv_at hl 0 rfl) ?_
    refine lv_iconst (v := (0 : Int32)) hx hb dX1_takeLink_44 (by decide) ?_
    refine lv_aload_n hx hb dX1_takeLink_45 rfl (lv_at hl 0 rfl) ?_
    obtain ⟨x6, h7, hf⟩ := gb hf
    refine g_callV0 (st1 := [.int x6, .int (0 : Int32), .ref z0, .ref y1]) [.int (0 : Int32), .ref z0, .ref y1] hx hb hml hown hts hR hS kvX1_68 (mX7_count l h7) (oX7_count h7) ⟨rfl, rfl, Nat.le_of_ble_eq_true rfl, Nat.le_of_ble_eq_true rfl⟩ hl.1 rfl (Nat.le_of_ble_eq_true rfl) dX1_takeLink_46 ⟨Nat.zero_le _, Nat.zero_le _⟩ rfl rfl (fun H locs hR hS => ?_)
    obtain ⟨x8, h9, hf⟩ := gb hf
    refine g_callV0 (st1 := []) [] hx hb hml hown hts hR hS kvX1_200 (mX7_addPart l h9) (oX7_addPart h9) ⟨rfl, rfl, Nat.le_of_ble_eq_true rfl, Nat.le_of_ble_eq_true rfl⟩ hl.1 rfl (Nat.le_of_ble_eq_true rfl) dX1_takeLink_49 ⟨Nat.zero_le _, Nat.zero_le _⟩ rfl rfl (fun H locs hR hS => ?_)
    refine lv_goto (tgt := 67) hx hb dX1_takeLink_52 (by decide) ?_
    have hf := Option.some.inj hf
    subst hf
    exact g_vret hx hb hr hlocks hR hS dX1_takeLink_67 rfl
theorem oX1_takeLink {v : Nat → Nat} {G : gH} {a0 : Nat} {a1 : Nat} {a2 : Int32} {r : gH} (h : fX1_takeLink v G a0 a1 a2 = some r) : gOb G a0 1 = some () := by
  unfold fX1_takeLink at h
  obtain ⟨u, hu, -⟩ := gb h
  exact hu
set_option maxHeartbeats 4000000 in
set_option maxRecDepth 100000 in
theorem mX1_takeLink (l : Launch) {B0 : Nat} {D : va_G} {v : Nat → Nat} {G : gH} {a0 : Nat} {a1 : Nat} {a2 : Int32} {r : gH} (hf : fX1_takeLink v G a0 a1 a2 = some r) : Met l yX1_takeLink (.code yX1_takeLink cX1_takeLink 4 none :: gW) ({ frames := 3, cells := 0, slots := 0, locals := 68 } : Room) (gPre B0 D v [.ref a0, .ref a1, .int a2] G) (gQ B0 D v none r) 0 0 (gA B0) := by
  refine g_met (lv := [(0, .ref a0), (1, .ref a1), (2, .int a2)]) (by decide) (Nat.le_of_ble_eq_true rfl) rfl ?_
  intro p e s m below meth c hM hR ls hl
  obtain ⟨hx, hb, hr, hml, hown, hts, hlocks, hnm⟩ := id hM
  have hS : va_S (gA B0) s.heap s.heap [] := va_S.rf
  unfold fX1_takeLink at hf
  obtain ⟨-, -, hf⟩ := gb hf
  refine lv_aload_n hx hb dX1_takeLink_0 rfl (lv_at hl 1 rfl) ?_
  obtain ⟨x1, h2, hf⟩ := gb hf
  refine g_callV0 (st1 := []) [] hx hb hml hown hts hR hS kvX1_197 (mX7_empty l h2) (oX7_empty h2) ⟨rfl, rfl, Nat.le_of_ble_eq_true rfl, Nat.le_of_ble_eq_true rfl⟩ hl.1 rfl (Nat.le_of_ble_eq_true rfl) dX1_takeLink_1 ⟨Nat.zero_le _, Nat.zero_le _⟩ rfl rfl (fun H locs hR hS => ?_)
  refine lv_aload_n hx hb dX1_takeLink_4 rfl (lv_at hl 0 rfl) ?_
  refine g_getR hx hb hts hown hR lkX1_20 dX1_takeLink_5 hf (fun x3 hf => ?_)
  refine g_getR hx hb hts hown hR lkX1_129 dX1_takeLink_8 hf (fun x4 hf => ?_)
  obtain ⟨x5, h6, hf⟩ := gb hf
  refine g_callV0 (st1 := [.int x5]) [] hx hb hml hown hts hR hS kvX1_68 (mX7_count l h6) (oX7_count h6) ⟨rfl, rfl, Nat.le_of_ble_eq_true rfl, Nat.le_of_ble_eq_true rfl⟩ hl.1 rfl (Nat.le_of_ble_eq_true rfl) dX1_takeLink_11 ⟨Nat.zero_le _, Nat.zero_le _⟩ rfl rfl (fun H locs hR hS => ?_)
  refine g_if_le (tgt := 27) hx hb dX1_takeLink_14 (by decide) hf (fun h7 hf => ?_) (fun h7 hf => ?_)
  · refine lv_aload_n hx hb dX1_takeLink_27 rfl (lv_at hl 0 rfl) ?_
    refine g_getR hx hb hts hown hR lkX1_24 dX1_takeLink_28 hf (fun x8 hf => ?_)
    refine g_getR hx hb hts hown hR lkX1_129 dX1_takeLink_31 hf (fun x9 hf => ?_)
    exact uX1_takeLink_34 hM x1 a0 a1 a2 x9 hf _ _ hR hS ls (lv_sub hl [0, 1, 2] rfl)
  · refine lv_aload_n hx hb dX1_takeLink_17 rfl (lv_at hl 0 rfl) ?_
    refine g_getR hx hb hts hown hR lkX1_20 dX1_takeLink_18 hf (fun x10 hf => ?_)
    refine g_getR hx hb hts hown hR lkX1_129 dX1_takeLink_21 hf (fun x11 hf => ?_)
    refine lv_goto (tgt := 34) hx hb dX1_takeLink_24 (by decide) ?_
    exact uX1_takeLink_34 hM x1 a0 a1 a2 x11 hf _ _ hR hS ls (lv_sub hl [0, 1, 2] rfl)
theorem oX7_endsWithSlash {v : Nat → Nat} {G : gH} {a0 : Nat} {r : Int32} (h : fX7_endsWithSlash v G a0 = some r) : gOb G a0 7 = some () := by
  unfold fX7_endsWithSlash at h
  obtain ⟨u, hu, -⟩ := gb h
  exact hu
set_option maxHeartbeats 4000000 in
set_option maxRecDepth 100000 in
theorem mX7_endsWithSlash (l : Launch) {B0 : Nat} {D : va_G} {v : Nat → Nat} {G : gH} {a0 : Nat} {r : Int32} (hf : fX7_endsWithSlash v G a0 = some r) : Met l yX7_endsWithSlash (.code yX7_endsWithSlash cX7_endsWithSlash 1 (some .boolean) :: gW) ({ frames := 1, cells := 0, slots := 0, locals := 21 } : Room) (gPre B0 D v [.ref a0] G) (gQ B0 D v (some (.int r)) G) 0 0 (gA B0) := by
  refine g_met (lv := [(0, .ref a0)]) (by decide) (Nat.le_of_ble_eq_true rfl) rfl ?_
  intro p e s m below meth c hM hR ls hl
  obtain ⟨hx, hb, hr, hml, hown, hts, hlocks, hnm⟩ := id hM
  have hS : va_S (gA B0) s.heap s.heap [] := va_S.rf
  unfold fX7_endsWithSlash at hf
  obtain ⟨-, -, hf⟩ := gb hf
  refine lv_aload_n hx hb dX7_endsWithSlash_0 rfl (lv_at hl 0 rfl) ?_
  refine lv_aload_n hx hb dX7_endsWithSlash_1 rfl (lv_at hl 0 rfl) ?_
  refine g_getI hx hb hts hown hR lkX7_9 dX7_endsWithSlash_2 hf (fun x1 hf => ?_)
  refine lv_iconst (v := (1 : Int32)) hx hb dX7_endsWithSlash_5 (by decide) ?_
  refine lv_isub hx hb dX7_endsWithSlash_6 ?_
  obtain ⟨x2, h3, hf⟩ := gb hf
  refine g_callV0 (st1 := [.int x2]) [] hx hb hml hown hts hR hS kvX7_33 (mX7_at l h3) (oX7_at h3) ⟨rfl, rfl, Nat.le_of_ble_eq_true rfl, Nat.le_of_ble_eq_true rfl⟩ hl.1 rfl (Nat.le_of_ble_eq_true rfl) dX7_endsWithSlash_7 ⟨Nat.zero_le _, Nat.zero_le _⟩ rfl rfl (fun H locs hR hS => ?_)
  refine lv_bipush (v := (47 : Int32)) hx hb dX7_endsWithSlash_10 (by decide) ?_
  refine g_icmp_ne (tgt := 19) hx hb dX7_endsWithSlash_12 (by decide) hf (fun h4 hf => ?_) (fun h4 hf => ?_)
  · refine lv_iconst (v := (0 : Int32)) hx hb dX7_endsWithSlash_19 (by decide) ?_
    refine g_zz hf (fun h5 _ hf => ?_)
    have hf := Option.some.inj hf
    subst hf
    exact g_zret hx hb hr hlocks hR hS dX7_endsWithSlash_20 h5 rfl rfl
  · refine lv_iconst (v := (1 : Int32)) hx hb dX7_endsWithSlash_15 (by decide) ?_
    refine lv_goto (tgt := 20) hx hb dX7_endsWithSlash_16 (by decide) ?_
    refine g_zz hf (fun h6 _ hf => ?_)
    have hf := Option.some.inj hf
    subst hf
    exact g_zret hx hb hr hlocks hR hS dX7_endsWithSlash_20 h6 rfl rfl
set_option maxHeartbeats 4000000 in
set_option maxRecDepth 100000 in
theorem uX1_setValues_164 {p : Program} {l : Launch} {e : Env} {s : State} {m : MethodId} {args : Array Value} {below : List Frame} {meth : Method} {c : Code} {B0 : Nat} {D : va_G} {v : Nat → Nat} {r : gH} (hM : gM p s m args meth c cX1_setValues 7 RX1 "setValues" none) (G : gH) (y1 : Nat) (y3 : Int32) (z0 : Int64) (z1 : Int32) (z2 : Nat) (hf : jX1_setValues_164 v G y1 y3 z0 z1 z2 = some r) (H : Heap) (locs : List Loc) (hR : gRep B0 D v G s H) (hS : va_S (gA B0) s.heap H locs) (ls : Array Slot) (hl : lv_has ls 7 [(1, .ref y1), (3, .int y3)]) : W p l e ({ frames := 1, cells := 0, slots := 0, locals := 25 } : Room) s m args below meth c H locs 0 0 (MQ below (gQ B0 D v none r) args s 0 0 (gA B0)) (F0 m 164 ls [.long z0, .int z1, .ref z2]) := by
  obtain ⟨hx, hb, hr, hml, hown, hts, hlocks, hnm⟩ := id hM
  unfold jX1_setValues_164 at hf
  refine g_last hx hb hR hS dX1_setValues_164 hf (fun G1 H locs hf hR hS => ?_)
  refine lv_aload_n hx hb dX1_setValues_165 rfl (lv_at hl 0 rfl) ?_
  refine g_getR hx hb hts hown hR lkX1_165 dX1_setValues_166 hf (fun x2 hf => ?_)
  refine lv_bipush (v := (7 : Int32)) hx hb dX1_setValues_169 (by decide) ?_
  refine lv_iload_n hx hb dX1_setValues_171 rfl (lv_at hl 1 rfl) ?_
  refine lv_i2l hx hb dX1_setValues_172 rfl ?_
  refine g_last hx hb hR hS dX1_setValues_173 hf (fun G3 H locs hf hR hS => ?_)
  refine lv_aload_n hx hb dX1_setValues_174 rfl (lv_at hl 0 rfl) ?_
  refine g_getR hx hb hts hown hR lkX1_165 dX1_setValues_175 hf (fun x4 hf => ?_)
  refine lv_bipush (v := (8 : Int32)) hx hb dX1_setValues_178 (by decide) ?_
  refine lv_iload_n hx hb dX1_setValues_180 rfl (lv_at hl 1 rfl) ?_
  refine lv_sipush (v := (512 : Int32)) hx hb dX1_setValues_181 (by decide) ?_
  refine lv_iadd hx hb dX1_setValues_184 ?_
  refine lv_i2l hx hb dX1_setValues_185 rfl ?_
  refine g_last hx hb hR hS dX1_setValues_186 hf (fun G5 H locs hf hR hS => ?_)
  refine lv_aload_n hx hb dX1_setValues_187 rfl (lv_at hl 0 rfl) ?_
  refine g_getR hx hb hts hown hR lkX1_165 dX1_setValues_188 hf (fun x6 hf => ?_)
  refine lv_bipush (v := (9 : Int32)) hx hb dX1_setValues_191 (by decide) ?_
  refine lv_aload_n hx hb dX1_setValues_193 rfl (lv_at hl 0 rfl) ?_
  refine g_getR hx hb hts hown hR lkX1_146 dX1_setValues_194 hf (fun x7 hf => ?_)
  obtain ⟨x8, h9, hf⟩ := gb hf
  refine g_callV0 (st1 := [.int x8, .int (9 : Int32), .ref x6]) [.int (9 : Int32), .ref x6] hx hb hml hown hts hR hS kvX1_68 (mX7_count l h9) (oX7_count h9) ⟨rfl, rfl, Nat.le_of_ble_eq_true rfl, Nat.le_of_ble_eq_true rfl⟩ hl.1 rfl (Nat.le_of_ble_eq_true rfl) dX1_setValues_197 ⟨Nat.zero_le _, Nat.zero_le _⟩ rfl rfl (fun H locs hR hS => ?_)
  refine lv_i2l hx hb dX1_setValues_200 rfl ?_
  refine g_last hx hb hR hS dX1_setValues_201 hf (fun G10 H locs hf hR hS => ?_)
  refine lv_aload_n hx hb dX1_setValues_202 rfl (lv_at hl 0 rfl) ?_
  refine g_getR hx hb hts hown hR lkX1_165 dX1_setValues_203 hf (fun x11 hf => ?_)
  refine lv_bipush (v := (10 : Int32)) hx hb dX1_setValues_206 (by decide) ?_
  refine lv_aload_n hx hb dX1_setValues_208 rfl (lv_at hl 0 rfl) ?_
  refine g_getR hx hb hts hown hR lkX1_151 dX1_setValues_209 hf (fun x12 hf => ?_)
  obtain ⟨x13, h14, hf⟩ := gb hf
  refine g_callV0 (st1 := [.int x13, .int (10 : Int32), .ref x11]) [.int (10 : Int32), .ref x11] hx hb hml hown hts hR hS kvX1_68 (mX7_count l h14) (oX7_count h14) ⟨rfl, rfl, Nat.le_of_ble_eq_true rfl, Nat.le_of_ble_eq_true rfl⟩ hl.1 rfl (Nat.le_of_ble_eq_true rfl) dX1_setValues_212 ⟨Nat.zero_le _, Nat.zero_le _⟩ rfl rfl (fun H locs hR hS => ?_)
  refine lv_i2l hx hb dX1_setValues_215 rfl ?_
  refine g_last hx hb hR hS dX1_setValues_216 hf (fun G15 H locs hf hR hS => ?_)
  have hf := Option.some.inj hf
  subst hf
  exact g_vret hx hb hr hlocks hR hS dX1_setValues_217 rfl
set_option maxHeartbeats 4000000 in
set_option maxRecDepth 100000 in
theorem uX1_setValues_140 {p : Program} {l : Launch} {e : Env} {s : State} {m : MethodId} {args : Array Value} {below : List Frame} {meth : Method} {c : Code} {B0 : Nat} {D : va_G} {v : Nat → Nat} {r : gH} (hM : gM p s m args meth c cX1_setValues 7 RX1 "setValues" none) (G : gH) (y1 : Nat) (y3 : Int32) (y6 : Nat) (z0 : Int64) (z1 : Int32) (z2 : Nat) (hf : jX1_setValues_140 v G y1 y3 y6 z0 z1 z2 = some r) (H : Heap) (locs : List Loc) (hR : gRep B0 D v G s H) (hS : va_S (gA B0) s.heap H locs) (ls : Array Slot) (hl : lv_has ls 7 [(1, .ref y1), (3, .int y3), (6, .ref y6)]) : W p l e ({ frames := 1, cells := 0, slots := 0, locals := 25 } : Room) s m args below meth c H locs 0 0 (MQ below (gQ B0 D v none r) args s 0 0 (gA B0)) (F0 m 140 ls [.long z0, .int z1, .ref z2]) := by
  obtain ⟨hx, hb, hr, hml, hown, hts, hlocks, hnm⟩ := id hM
  unfold jX1_setValues_140 at hf
  refine g_last hx hb hR hS dX1_setValues_140 hf (fun G1 H locs hf hR hS => ?_)
  refine lv_aload_n hx hb dX1_setValues_141 rfl (lv_at hl 0 rfl) ?_
  refine g_getR hx hb hts hown hR lkX1_165 dX1_setValues_142 hf (fun x2 hf => ?_)
  refine lv_bipush (v := (6 : Int32)) hx hb dX1_setValues_145 (by decide) ?_
  refine lv_aload hx hb dX1_setValues_147 (lv_at hl 2 rfl) ?_
  refine g_getI hx hb hts hown hR lkX1_175 dX1_setValues_149 hf (fun x3 hf => ?_)
  refine g_if_eq (tgt := 163) hx hb dX1_setValues_152 (by decide) hf (fun h4 hf => ?_) (fun h4 hf => ?_)
  · refine lv_lconst (v := (0 : Int64)) hx hb dX1_setValues_163 (by decide) ?_
    exact uX1_setValues_164 hM G1 y1 y3 (0 : Int64) (6 : Int32) x2 hf _ _ hR hS ls (lv_sub hl [0, 1] rfl)
  · refine lv_aload hx hb dX1_setValues_155 (lv_at hl 2 rfl) ?_
    refine g_getJ hx hb hts hown hR lkX1_194 dX1_setValues_157 hf (fun x5 hf => ?_)
    refine lv_goto (tgt := 164) hx hb dX1_setValues_160 (by decide) ?_
    exact uX1_setValues_164 hM G1 y1 y3 x5 (6 : Int32) x2 hf _ _ hR hS ls (lv_sub hl [0, 1] rfl)
set_option maxHeartbeats 4000000 in
set_option maxRecDepth 100000 in
theorem uX1_setValues_21 {p : Program} {l : Launch} {e : Env} {s : State} {m : MethodId} {args : Array Value} {below : List Frame} {meth : Method} {c : Code} {B0 : Nat} {D : va_G} {v : Nat → Nat} {r : gH} (hM : gM p s m args meth c cX1_setValues 7 RX1 "setValues" none) (G : gH) (y0 : Nat) (y1 : Nat) (y2 : Int32) (y3 : Int32) (y4 : Int64) (z0 : Nat) (hf : jX1_setValues_21 v G y0 y1 y2 y3 y4 z0 = some r) (H : Heap) (locs : List Loc) (hR : gRep B0 D v G s H) (hS : va_S (gA B0) s.heap H locs) (ls : Array Slot) (hl : lv_has ls 7 [(0, .ref y0), (1, .ref y1), (2, .int y2), (3, .int y3), (4, .long y4)]) : W p l e ({ frames := 1, cells := 0, slots := 0, locals := 25 } : Room) s m args below meth c H locs 0 0 (MQ below (gQ B0 D v none r) args s 0 0 (gA B0)) (F0 m 21 ls [.ref z0]) := by
  obtain ⟨hx, hb, hr, hml, hown, hts, hlocks, hnm⟩ := id hM
  unfold jX1_setValues_21 at hf
  refine lv_astore (lv' := [(6, .ref z0), (0, .ref y0), (1, .ref y1), (2, .int y2), (3, .int y3), (4, .long y4)]) hx hb dX1_setValues_21 hl (by decide) rfl (fun ls hl => ?_)
  refine lv_aload_n hx hb dX1_setValues_23 rfl (lv_at hl 2 rfl) ?_
  refine g_getR hx hb hts hown hR lkX1_165 dX1_setValues_24 hf (fun x1 hf => ?_)
  refine lv_iconst (v := (0 : Int32)) hx hb dX1_setValues_27 (by decide) ?_
  refine lv_iload_n hx hb dX1_setValues_28 rfl (lv_at hl 3 rfl) ?_
  refine lv_i2l hx hb dX1_setValues_29 rfl ?_
  refine g_last hx hb hR hS dX1_setValues_30 hf (fun G2 H locs hf hR hS => ?_)
  refine lv_aload_n hx hb dX1_setValues_31 rfl (lv_at hl 2 rfl) ?_
  refine g_getR hx hb hts hown hR lkX1_165 dX1_setValues_32 hf (fun x3 hf => ?_)
  refine lv_iconst (v := (1 : Int32)) hx hb dX1_setValues_35 (by decide) ?_
  refine lv_aload_n hx hb dX1_setValues_36 rfl (lv_at hl 1 rfl) ?_
  refine g_getR hx hb hts hown hR lkX1_50 dX1_setValues_37 hf (fun x4 hf => ?_)
  refine g_getJ hx hb hts hown hR lkX1_179 dX1_setValues_40 hf (fun x5 hf => ?_)
  refine g_last hx hb hR hS dX1_setValues_43 hf (fun G6 H locs hf hR hS => ?_)
  refine lv_aload_n hx hb dX1_setValues_44 rfl (lv_at hl 2 rfl) ?_
  refine g_getR hx hb hts hown hR lkX1_165 dX1_setValues_45 hf (fun x7 hf => ?_)
  refine lv_iconst (v := (2 : Int32)) hx hb dX1_setValues_48 (by decide) ?_
  refine lv_aload_n hx hb dX1_setValues_49 rfl (lv_at hl 1 rfl) ?_
  refine g_getR hx hb hts hown hR lkX1_20 dX1_setValues_50 hf (fun x8 hf => ?_)
  refine g_getJ hx hb hts hown hR lkX1_182 dX1_setValues_53 hf (fun x9 hf => ?_)
  refine lv_aload_n hx hb dX1_setValues_56 rfl (lv_at hl 1 rfl) ?_
  refine g_getR hx hb hts hown hR lkX1_24 dX1_setValues_57 hf (fun x10 hf => ?_)
  refine g_getJ hx hb hts hown hR lkX1_182 dX1_setValues_60 hf (fun x11 hf => ?_)
  refine lv_aload_n hx hb dX1_setValues_63 rfl (lv_at hl 1 rfl) ?_
  refine g_getR hx hb hts hown hR lkX1_50 dX1_setValues_64 hf (fun x12 hf => ?_)
  refine g_getJ hx hb hts hown hR lkX1_185 dX1_setValues_67 hf (fun x13 hf => ?_)
  obtain ⟨x14, h15, hf⟩ := gb hf
  refine g_callS0 (st1 := [.long x14, .int (2 : Int32), .ref x7]) [.int (2 : Int32), .ref x7] hx hb hml hown hts hR hS ksX1_114 (mX1_pick l h15) ⟨rfl, rfl, Nat.le_of_ble_eq_true rfl, Nat.le_of_ble_eq_true rfl⟩ hl.1 rfl (Nat.le_of_ble_eq_true rfl) dX1_setValues_70 ⟨Nat.zero_le _, Nat.zero_le _⟩ rfl rfl (fun H locs hR hS => ?_)
  refine g_last hx hb hR hS dX1_setValues_73 hf (fun G16 H locs hf hR hS => ?_)
  refine lv_aload_n hx hb dX1_setValues_74 rfl (lv_at hl 2 rfl) ?_
  refine g_getR hx hb hts hown hR lkX1_165 dX1_setValues_75 hf (fun x17 hf => ?_)
  refine lv_iconst (v := (3 : Int32)) hx hb dX1_setValues_78 (by decide) ?_
  refine lv_aload_n hx hb dX1_setValues_79 rfl (lv_at hl 1 rfl) ?_
  refine g_getR hx hb hts hown hR lkX1_20 dX1_setValues_80 hf (fun x18 hf => ?_)
  refine g_getJ hx hb hts hown hR lkX1_186 dX1_setValues_83 hf (fun x19 hf => ?_)
  refine lv_aload_n hx hb dX1_setValues_86 rfl (lv_at hl 1 rfl) ?_
  refine g_getR hx hb hts hown hR lkX1_24 dX1_setValues_87 hf (fun x20 hf => ?_)
  refine g_getJ hx hb hts hown hR lkX1_186 dX1_setValues_90 hf (fun x21 hf => ?_)
  refine lv_aload_n hx hb dX1_setValues_93 rfl (lv_at hl 1 rfl) ?_
  refine g_getR hx hb hts hown hR lkX1_50 dX1_setValues_94 hf (fun x22 hf => ?_)
  refine g_getJ hx hb hts hown hR lkX1_189 dX1_setValues_97 hf (fun x23 hf => ?_)
  obtain ⟨x24, h25, hf⟩ := gb hf
  refine g_callS0 (st1 := [.long x24, .int (3 : Int32), .ref x17]) [.int (3 : Int32), .ref x17] hx hb hml hown hts hR hS ksX1_114 (mX1_pick l h25) ⟨rfl, rfl, Nat.le_of_ble_eq_true rfl, Nat.le_of_ble_eq_true rfl⟩ hl.1 rfl (Nat.le_of_ble_eq_true rfl) dX1_setValues_100 ⟨Nat.zero_le _, Nat.zero_le _⟩ rfl rfl (fun H locs hR hS => ?_)
  refine g_last hx hb hR hS dX1_setValues_103 hf (fun G26 H locs hf hR hS => ?_)
  refine lv_aload_n hx hb dX1_setValues_104 rfl (lv_at hl 2 rfl) ?_
  refine g_getR hx hb hts hown hR lkX1_165 dX1_setValues_105 hf (fun x27 hf => ?_)
  refine lv_iconst (v := (4 : Int32)) hx hb dX1_setValues_108 (by decide) ?_
  refine lv_lload hx hb dX1_setValues_109 (lv_at hl 5 rfl) ?_
  refine g_last hx hb hR hS dX1_setValues_111 hf (fun G28 H locs hf hR hS => ?_)
  refine lv_aload_n hx hb dX1_setValues_112 rfl (lv_at hl 2 rfl) ?_
  refine g_getR hx hb hts hown hR lkX1_165 dX1_setValues_113 hf (fun x29 hf => ?_)
  refine lv_iconst (v := (5 : Int32)) hx hb dX1_setValues_116 (by decide) ?_
  refine lv_aload hx hb dX1_setValues_117 (lv_at hl 0 rfl) ?_
  refine g_getI hx hb hts hown hR lkX1_175 dX1_setValues_119 hf (fun x30 hf => ?_)
  refine g_if_eq (tgt := 133) hx hb dX1_setValues_122 (by decide) hf (fun h31 hf => ?_) (fun h31 hf => ?_)
  · refine lv_aload_n hx hb dX1_setValues_133 rfl (lv_at hl 1 rfl) ?_
    refine g_getR hx hb hts hown hR lkX1_50 dX1_setValues_134 hf (fun x32 hf => ?_)
    refine g_getJ hx hb hts hown hR lkX1_193 dX1_setValues_137 hf (fun x33 hf => ?_)
    exact uX1_setValues_140 hM G28 y1 y3 z0 x33 (5 : Int32) x29 hf _ _ hR hS ls (lv_sub hl [2, 4, 0] rfl)
  · refine lv_aload hx hb dX1_setValues_125 (lv_at hl 0 rfl) ?_
    refine g_getJ hx hb hts hown hR lkX1_190 dX1_setValues_127 hf (fun x34 hf => ?_)
    refine lv_goto (tgt := 140) hx hb dX1_setValues_130 (by decide) ?_
    exact uX1_setValues_140 hM G28 y1 y3 z0 x34 (5 : Int32) x29 hf _ _ hR hS ls (lv_sub hl [2, 4, 0] rfl)
theorem oX1_setValues {v : Nat → Nat} {G : gH} {a0 : Nat} {a1 : Nat} {a2 : Int32} {a3 : Int32} {a4 : Int64} {r : gH} (h : fX1_setValues v G a0 a1 a2 a3 a4 = some r) : gOb G a0 1 = some () := by
  unfold fX1_setValues at h
  obtain ⟨u, hu, -⟩ := gb h
  exact hu
set_option maxHeartbeats 4000000 in
set_option maxRecDepth 100000 in
theorem mX1_setValues (l : Launch) {B0 : Nat} {D : va_G} {v : Nat → Nat} {G : gH} {a0 : Nat} {a1 : Nat} {a2 : Int32} {a3 : Int32} {a4 : Int64} {r : gH} (hf : fX1_setValues v G a0 a1 a2 a3 a4 = some r) : Met l yX1_setValues (.code yX1_setValues cX1_setValues 7 none :: gW) ({ frames := 1, cells := 0, slots := 0, locals := 25 } : Room) (gPre B0 D v [.ref a0, .ref a1, .int a2, .int a3, .long a4] G) (gQ B0 D v none r) 0 0 (gA B0) := by
  refine g_met (lv := [(0, .ref a0), (1, .ref a1), (2, .int a2), (3, .int a3), (4, .long a4)]) (by decide) (Nat.le_of_ble_eq_true rfl) rfl ?_
  intro p e s m below meth c hM hR ls hl
  obtain ⟨hx, hb, hr, hml, hown, hts, hlocks, hnm⟩ := id hM
  have hS : va_S (gA B0) s.heap s.heap [] := va_S.rf
  unfold fX1_setValues at hf
  obtain ⟨-, -, hf⟩ := gb hf
  refine lv_aload_n hx hb dX1_setValues_0 rfl (lv_at hl 0 rfl) ?_
  refine g_getR hx hb hts hown hR lkX1_20 dX1_setValues_1 hf (fun x1 hf => ?_)
  refine g_getI hx hb hts hown hR lkX1_175 dX1_setValues_4 hf (fun x2 hf => ?_)
  refine g_if_eq (tgt := 17) hx hb dX1_setValues_7 (by decide) hf (fun h3 hf => ?_) (fun h3 hf => ?_)
  · refine lv_aload_n hx hb dX1_setValues_17 rfl (lv_at hl 0 rfl) ?_
    refine g_getR hx hb hts hown hR lkX1_24 dX1_setValues_18 hf (fun x4 hf => ?_)
    exact uX1_setValues_21 hM G a0 a1 a2 a3 a4 x4 hf _ _ hR hS ls (lv_sub hl [0, 1, 2, 3, 4] rfl)
  · refine lv_aload_n hx hb dX1_setValues_10 rfl (lv_at hl 0 rfl) ?_
    refine g_getR hx hb hts hown hR lkX1_20 dX1_setValues_11 hf (fun x5 hf => ?_)
    refine lv_goto (tgt := 21) hx hb dX1_setValues_14 (by decide) ?_
    exact uX1_setValues_21 hM G a0 a1 a2 a3 a4 x5 hf _ _ hR hS ls (lv_sub hl [0, 1, 2, 3, 4] rfl)
set_option maxHeartbeats 4000000 in
set_option maxRecDepth 100000 in
theorem uX9_isPartEnd_18 {p : Program} {l : Launch} {e : Env} {s : State} {m : MethodId} {args : Array Value} {below : List Frame} {meth : Method} {c : Code} {B0 : Nat} {D : va_G} {v : Nat → Nat} {r : Int32} {G : gH} (hM : gM p s m args meth c cX9_isPartEnd 2 RX9 "isPartEnd" (some .boolean)) (hf : jX9_isPartEnd_18 v G = some r) (H : Heap) (locs : List Loc) (hR : gRep B0 D v G s H) (hS : va_S (gA B0) s.heap H locs) (ls : Array Slot) (hl : lv_has ls 2 []) : W p l e ({ frames := 1, cells := 0, slots := 0, locals := 21 } : Room) s m args below meth c H locs 0 0 (MQ below (gQ B0 D v (some (.int r)) G) args s 0 0 (gA B0)) (F0 m 18 ls []) := by
  obtain ⟨hx, hb, hr, hml, hown, hts, hlocks, hnm⟩ := id hM
  unfold jX9_isPartEnd_18 at hf
  refine lv_iconst (v := (1 : Int32)) hx hb dX9_isPartEnd_18 (by decide) ?_
  refine lv_goto (tgt := 23) hx hb dX9_isPartEnd_19 (by decide) ?_
  refine g_zz hf (fun h1 _ hf => ?_)
  have hf := Option.some.inj hf
  subst hf
  exact g_zret hx hb hr hlocks hR hS dX9_isPartEnd_23 h1 rfl rfl
set_option maxHeartbeats 4000000 in
set_option maxRecDepth 100000 in
theorem mX9_isPartEnd (l : Launch) {B0 : Nat} {D : va_G} {v : Nat → Nat} {G : gH} {a0 : Nat} {a1 : Int32} {r : Int32} (hf : fX9_isPartEnd v G a0 a1 = some r) : Met l yX9_isPartEnd (.code yX9_isPartEnd cX9_isPartEnd 2 (some .boolean) :: gW) ({ frames := 1, cells := 0, slots := 0, locals := 21 } : Room) (gPre B0 D v [.ref a0, .int a1] G) (gQ B0 D v (some (.int r)) G) 0 0 (gA B0) := by
  refine g_met (lv := [(0, .ref a0), (1, .int a1)]) (by decide) (Nat.le_of_ble_eq_true rfl) rfl ?_
  intro p e s m below meth c hM hR ls hl
  obtain ⟨hx, hb, hr, hml, hown, hts, hlocks, hnm⟩ := id hM
  have hS : va_S (gA B0) s.heap s.heap [] := va_S.rf
  unfold fX9_isPartEnd at hf
  refine lv_iload_n hx hb dX9_isPartEnd_0 rfl (lv_at hl 1 rfl) ?_
  refine lv_aload_n hx hb dX9_isPartEnd_1 rfl (lv_at hl 0 rfl) ?_
  obtain ⟨x1, h2, hf⟩ := gb hf
  refine g_callV0 (st1 := [.int x1, .int a1]) [.int a1] hx hb hml hown hts hR hS kvX9_29 (mX7_count l h2) (oX7_count h2) ⟨rfl, rfl, Nat.le_of_ble_eq_true rfl, Nat.le_of_ble_eq_true rfl⟩ hl.1 rfl (Nat.le_of_ble_eq_true rfl) dX9_isPartEnd_2 ⟨Nat.zero_le _, Nat.zero_le _⟩ rfl rfl (fun H locs hR hS => ?_)
  refine g_icmp_eq (tgt := 18) hx hb dX9_isPartEnd_5 (by decide) hf (fun h3 hf => ?_) (fun h3 hf => ?_)
  · exact uX9_isPartEnd_18 hM  hf _ _ hR hS ls (lv_sub hl [] rfl)
  · refine lv_aload_n hx hb dX9_isPartEnd_8 rfl (lv_at hl 0 rfl) ?_
    refine lv_iload_n hx hb dX9_isPartEnd_9 rfl (lv_at hl 1 rfl) ?_
    obtain ⟨x4, h5, hf⟩ := gb hf
    refine g_callV0 (st1 := [.int x4]) [] hx hb hml hown hts hR hS kvX9_9 (mX7_at l h5) (oX7_at h5) ⟨rfl, rfl, Nat.le_of_ble_eq_true rfl, Nat.le_of_ble_eq_true rfl⟩ hl.1 rfl (Nat.le_of_ble_eq_true rfl) dX9_isPartEnd_10 ⟨Nat.zero_le _, Nat.zero_le _⟩ rfl rfl (fun H locs hR hS => ?_)
    refine lv_bipush (v := (47 : Int32)) hx hb dX9_isPartEnd_13 (by decide) ?_
    refine g_icmp_ne (tgt := 22) hx hb dX9_isPartEnd_15 (by decide) hf (fun h6 hf => ?_) (fun h6 hf => ?_)
    · refine lv_iconst (v := (0 : Int32)) hx hb dX9_isPartEnd_22 (by decide) ?_
      refine g_zz hf (fun h7 _ hf => ?_)
      have hf := Option.some.inj hf
      subst hf
      exact g_zret hx hb hr hlocks hR hS dX9_isPartEnd_23 h7 rfl rfl
    · exact uX9_isPartEnd_18 hM  hf _ _ hR hS ls (lv_sub hl [] rfl)
set_option maxHeartbeats 4000000 in
set_option maxRecDepth 100000 in
theorem uX9_step_24 {p : Program} {l : Launch} {e : Env} {s : State} {m : MethodId} {args : Array Value} {below : List Frame} {meth : Method} {c : Code} {B0 : Nat} {D : va_G} {v : Nat → Nat} {r : Int32} {G : gH} (hM : gM p s m args meth c cX9_step 3 RX9 "step" (some .int)) (y0 : Nat) (y1 : Int32) (y2 : Int32) (hf : jX9_step_24 v G y0 y1 y2 = some r) (H : Heap) (locs : List Loc) (hR : gRep B0 D v G s H) (hS : va_S (gA B0) s.heap H locs) (ls : Array Slot) (hl : lv_has ls 3 [(0, .ref y0), (1, .int y1), (2, .int y2)]) : W p l e ({ frames := 1, cells := 0, slots := 0, locals := 21 } : Room) s m args below meth c H locs 0 0 (MQ below (gQ B0 D v (some (.int r)) G) args s 0 0 (gA B0)) (F0 m 24 ls []) := by
  obtain ⟨hx, hb, hr, hml, hown, hts, hlocks, hnm⟩ := id hM
  unfold jX9_step_24 at hf
  refine lv_iload_n hx hb dX9_step_24 rfl (lv_at hl 2 rfl) ?_
  refine lv_iload_n hx hb dX9_step_25 rfl (lv_at hl 1 rfl) ?_
  refine lv_isub hx hb dX9_step_26 ?_
  refine lv_iconst (v := (2 : Int32)) hx hb dX9_step_27 (by decide) ?_
  refine g_icmp_ne (tgt := 57) hx hb dX9_step_28 (by decide) hf (fun h1 hf => ?_) (fun h1 hf => ?_)
  · refine lv_iconst (v := (1 : Int32)) hx hb dX9_step_57 (by decide) ?_
    have hf := Option.some.inj hf
    subst hf
    exact g_iret hx hb hr hlocks hR hS dX9_step_58 rfl rfl
  · refine lv_aload_n hx hb dX9_step_31 rfl (lv_at hl 0 rfl) ?_
    refine lv_iload_n hx hb dX9_step_32 rfl (lv_at hl 1 rfl) ?_
    obtain ⟨x2, h3, hf⟩ := gb hf
    refine g_callV0 (st1 := [.int x2]) [] hx hb hml hown hts hR hS kvX9_9 (mX7_at l h3) (oX7_at h3) ⟨rfl, rfl, Nat.le_of_ble_eq_true rfl, Nat.le_of_ble_eq_true rfl⟩ hl.1 rfl (Nat.le_of_ble_eq_true rfl) dX9_step_33 ⟨Nat.zero_le _, Nat.zero_le _⟩ rfl rfl (fun H locs hR hS => ?_)
    refine lv_bipush (v := (46 : Int32)) hx hb dX9_step_36 (by decide) ?_
    refine g_icmp_ne (tgt := 57) hx hb dX9_step_38 (by decide) hf (fun h4 hf => ?_) (fun h4 hf => ?_)
    · refine lv_iconst (v := (1 : Int32)) hx hb dX9_step_57 (by decide) ?_
      have hf := Option.some.inj hf
      subst hf
      exact g_iret hx hb hr hlocks hR hS dX9_step_58 rfl rfl
    · refine lv_aload_n hx hb dX9_step_41 rfl (lv_at hl 0 rfl) ?_
      refine lv_iload_n hx hb dX9_step_42 rfl (lv_at hl 1 rfl) ?_
      refine lv_iconst (v := (1 : Int32)) hx hb dX9_step_43 (by decide) ?_
      refine lv_iadd hx hb dX9_step_44 ?_
      obtain ⟨x5, h6, hf⟩ := gb hf
      refine g_callV0 (st1 := [.int x5]) [] hx hb hml hown hts hR hS kvX9_9 (mX7_at l h6) (oX7_at h6) ⟨rfl, rfl, Nat.le_of_ble_eq_true rfl, Nat.le_of_ble_eq_true rfl⟩ hl.1 rfl (Nat.le_of_ble_eq_true rfl) dX9_step_45 ⟨Nat.zero_le _, Nat.zero_le _⟩ rfl rfl (fun H locs hR hS => ?_)
      refine lv_bipush (v := (46 : Int32)) hx hb dX9_step_48 (by decide) ?_
      refine g_icmp_ne (tgt := 57) hx hb dX9_step_50 (by decide) hf (fun h7 hf => ?_) (fun h7 hf => ?_)
      · refine lv_iconst (v := (1 : Int32)) hx hb dX9_step_57 (by decide) ?_
        have hf := Option.some.inj hf
        subst hf
        exact g_iret hx hb hr hlocks hR hS dX9_step_58 rfl rfl
      · refine lv_iconst (v := (-1 : Int32)) hx hb dX9_step_53 (by decide) ?_
        refine lv_goto (tgt := 58) hx hb dX9_step_54 (by decide) ?_
        have hf := Option.some.inj hf
        subst hf
        exact g_iret hx hb hr hlocks hR hS dX9_step_58 rfl rfl
set_option maxHeartbeats 4000000 in
set_option maxRecDepth 100000 in
theorem mX9_step (l : Launch) {B0 : Nat} {D : va_G} {v : Nat → Nat} {G : gH} {a0 : Nat} {a1 : Int32} {a2 : Int32} {r : Int32} (hf : fX9_step v G a0 a1 a2 = some r) : Met l yX9_step (.code yX9_step cX9_step 3 (some .int) :: gW) ({ frames := 1, cells := 0, slots := 0, locals := 21 } : Room) (gPre B0 D v [.ref a0, .int a1, .int a2] G) (gQ B0 D v (some (.int r)) G) 0 0 (gA B0) := by
  refine g_met (lv := [(0, .ref a0), (1, .int a1), (2, .int a2)]) (by decide) (Nat.le_of_ble_eq_true rfl) rfl ?_
  intro p e s m below meth c hM hR ls hl
  obtain ⟨hx, hb, hr, hml, hown, hts, hlocks, hnm⟩ := id hM
  have hS : va_S (gA B0) s.heap s.heap [] := va_S.rf
  unfold fX9_step at hf
  refine lv_iload_n hx hb dX9_step_0 rfl (lv_at hl 1 rfl) ?_
  refine lv_iload_n hx hb dX9_step_1 rfl (lv_at hl 2 rfl) ?_
  refine g_icmp_eq (tgt := 22) hx hb dX9_step_2 (by decide) hf (fun h1 hf => ?_) (fun h1 hf => ?_)
  · refine lv_iconst (v := (0 : Int32)) hx hb dX9_step_22 (by decide) ?_
    have hf := Option.some.inj hf
    subst hf
    exact g_iret hx hb hr hlocks hR hS dX9_step_23 rfl rfl
  · refine lv_iload_n hx hb dX9_step_5 rfl (lv_at hl 2 rfl) ?_
    refine lv_iload_n hx hb dX9_step_6 rfl (lv_at hl 1 rfl) ?_
    refine lv_isub hx hb dX9_step_7 ?_
    refine lv_iconst (v := (1 : Int32)) hx hb dX9_step_8 (by decide) ?_
    refine g_icmp_ne (tgt := 24) hx hb dX9_step_9 (by decide) hf (fun h2 hf => ?_) (fun h2 hf => ?_)
    · exact uX9_step_24 hM a0 a1 a2 hf _ _ hR hS ls (lv_sub hl [0, 1, 2] rfl)
    · refine lv_aload_n hx hb dX9_step_12 rfl (lv_at hl 0 rfl) ?_
      refine lv_iload_n hx hb dX9_step_13 rfl (lv_at hl 1 rfl) ?_
      obtain ⟨x3, h4, hf⟩ := gb hf
      refine g_callV0 (st1 := [.int x3]) [] hx hb hml hown hts hR hS kvX9_9 (mX7_at l h4) (oX7_at h4) ⟨rfl, rfl, Nat.le_of_ble_eq_true rfl, Nat.le_of_ble_eq_true rfl⟩ hl.1 rfl (Nat.le_of_ble_eq_true rfl) dX9_step_14 ⟨Nat.zero_le _, Nat.zero_le _⟩ rfl rfl (fun H locs hR hS => ?_)
      refine lv_bipush (v := (46 : Int32)) hx hb dX9_step_17 (by decide) ?_
      refine g_icmp_ne (tgt := 24) hx hb dX9_step_19 (by decide) hf (fun h5 hf => ?_) (fun h5 hf => ?_)
      · exact uX9_step_24 hM a0 a1 a2 hf _ _ hR hS ls (lv_sub hl [0, 1, 2] rfl)
      · refine lv_iconst (v := (0 : Int32)) hx hb dX9_step_22 (by decide) ?_
        have hf := Option.some.inj hf
        subst hf
        exact g_iret hx hb hr hlocks hR hS dX9_step_23 rfl rfl
set_option maxHeartbeats 4000000 in
set_option maxRecDepth 100000 in
theorem uX9_hasUp_35 {p : Program} {l : Launch} {e : Env} {s : State} {m : MethodId} {args : Array Value} {below : List Frame} {meth : Method} {c : Code} {B0 : Nat} {D : va_G} {v : Nat → Nat} {r : Int32} {G : gH} {K : Nat → Int32 → Int32 → Option Int32} (hM : gM p s m args meth c cX9_hasUp 3 RX9 "hasUp" (some .boolean)) (hK : ∀ (q0 : Nat) (q1 : Int32) (q2 : Int32) (H : Heap) (locs : List Loc) (ls : Array Slot), K q0 q1 q2 = some r → gRep B0 D v G s H → va_S (gA B0) s.heap H locs → lv_has ls 3 [(0, .ref q0), (1, .int q1), (2, .int q2)] → W p l e ({ frames := 2, cells := 0, slots := 0, locals := 43 } : Room) s m args below meth c H locs 0 0 (MQ below (gQ B0 D v (some (.int r)) G) args s 0 0 (gA B0)) (F0 m 4 ls [])) (y0 : Nat) (y1 : Int32) (y2 : Int32) (hf : jX9_hasUp_35 v G K y0 y1 y2 = some r) (H : Heap) (locs : List Loc) (hR : gRep B0 D v G s H) (hS : va_S (gA B0) s.heap H locs) (ls : Array Slot) (hl : lv_has ls 3 [(0, .ref y0), (1, .int y1), (2, .int y2)]) : W p l e ({ frames := 2, cells := 0, slots := 0, locals := 43 } : Room) s m args below meth c H locs 0 0 (MQ below (gQ B0 D v (some (.int r)) G) args s 0 0 (gA B0)) (F0 m 35 ls []) := by
  obtain ⟨hx, hb, hr, hml, hown, hts, hlocks, hnm⟩ := id hM
  unfold jX9_hasUp_35 at hf
  refine g_iinc (k := 2) (n' := (1 : Int32)) (lv2 := [(0, .ref y0), (1, .int y1)]) hx hb dX9_hasUp_35 hl rfl (by decide) (by decide) rfl hf (fun x1 ls hf hl => ?_)
  refine lv_goto (tgt := 4) hx hb dX9_hasUp_38 (by decide) ?_
  exact hK y0 y1 x1 _ _ ls hf hR hS (lv_sub hl [1, 2, 0] rfl)
set_option maxHeartbeats 4000000 in
set_option maxRecDepth 100000 in
theorem wX9_hasUp_4 {p : Program} {l : Launch} {e : Env} {s : State} {m : MethodId} {args : Array Value} {below : List Frame} {meth : Method} {c : Code} {B0 : Nat} {D : va_G} {v : Nat → Nat} {r : Int32} {G : gH} (hM : gM p s m args meth c cX9_hasUp 3 RX9 "hasUp" (some .boolean)) : ∀ (n : Nat) (y0 : Nat) (y1 : Int32) (y2 : Int32), lX9_hasUp_4 v G n y0 y1 y2 = some r → ∀ (H : Heap) (locs : List Loc), gRep B0 D v G s H → va_S (gA B0) s.heap H locs → ∀ (ls : Array Slot), lv_has ls 3 [(0, .ref y0), (1, .int y1), (2, .int y2)] → W p l e ({ frames := 2, cells := 0, slots := 0, locals := 43 } : Room) s m args below meth c H locs 0 0 (MQ below (gQ B0 D v (some (.int r)) G) args s 0 0 (gA B0)) (F0 m 4 ls []) := by
  obtain ⟨hx, hb, hr, hml, hown, hts, hlocks, hnm⟩ := id hM
  intro n
  induction n with
  | zero => intro y0 y1 y2 hf; cases hf
  | succ n ih =>
    intro y0 y1 y2 hf H locs hR hS ls hl
    have hK : ∀ (K : Nat → Int32 → Int32 → Option Int32), K = lX9_hasUp_4 v G n → (∀ (q0 : Nat) (q1 : Int32) (q2 : Int32) (H : Heap) (locs : List Loc) (ls : Array Slot), K q0 q1 q2 = some r → gRep B0 D v G s H → va_S (gA B0) s.heap H locs → lv_has ls 3 [(0, .ref q0), (1, .int q1), (2, .int q2)] → W p l e ({ frames := 2, cells := 0, slots := 0, locals := 43 } : Room) s m args below meth c H locs 0 0 (MQ below (gQ B0 D v (some (.int r)) G) args s 0 0 (gA B0)) (F0 m 4 ls [])) := fun K hk q0 q1 q2 H locs ls h1 h2 h3 h4 => ih q0 q1 q2 (by rw [← hk]; exact h1) H locs h2 h3 ls h4
    have hf : bX9_hasUp_4 v G (lX9_hasUp_4 v G n) y0 y1 y2 = some r := hf
    have hK := hK _ rfl
    generalize lX9_hasUp_4 v G n = K at hf hK
    unfold bX9_hasUp_4 at hf
    refine lv_iload_n hx hb dX9_hasUp_4 rfl (lv_at hl 2 rfl) ?_
    refine lv_aload_n hx hb dX9_hasUp_5 rfl (lv_at hl 0 rfl) ?_
    obtain ⟨x1, h2, hf⟩ := gb hf
    refine g_callV0 (st1 := [.int x1, .int y2]) [.int y2] hx hb hml hown hts hR hS kvX9_29 (mX7_count l h2) (oX7_count h2) ⟨rfl, rfl, Nat.le_of_ble_eq_true rfl, Nat.le_of_ble_eq_true rfl⟩ hl.1 rfl (Nat.le_of_ble_eq_true rfl) dX9_hasUp_6 ⟨Nat.zero_le _, Nat.zero_le _⟩ rfl rfl (fun H locs hR hS => ?_)
    refine g_icmp_gt (tgt := 41) hx hb dX9_hasUp_9 (by decide) hf (fun h3 hf => ?_) (fun h3 hf => ?_)
    · refine lv_iconst (v := (0 : Int32)) hx hb dX9_hasUp_41 (by decide) ?_
      refine g_zz hf (fun h4 _ hf => ?_)
      have hf := Option.some.inj hf
      subst hf
      exact g_zret hx hb hr hlocks hR hS dX9_hasUp_42 h4 rfl rfl
    · refine lv_aload_n hx hb dX9_hasUp_12 rfl (lv_at hl 0 rfl) ?_
      refine lv_iload_n hx hb dX9_hasUp_13 rfl (lv_at hl 2 rfl) ?_
      obtain ⟨x5, h6, hf⟩ := gb hf
      refine g_callS0 (st1 := [.int x5]) [] hx hb hml hown hts hR hS ksX9_33 (mX9_isPartEnd l h6) ⟨rfl, rfl, Nat.le_of_ble_eq_true rfl, Nat.le_of_ble_eq_true rfl⟩ hl.1 rfl (Nat.le_of_ble_eq_true rfl) dX9_hasUp_14 ⟨Nat.zero_le _, Nat.zero_le _⟩ rfl rfl (fun H locs hR hS => ?_)
      refine g_if_eq (tgt := 35) hx hb dX9_hasUp_17 (by decide) hf (fun h7 hf => ?_) (fun h7 hf => ?_)
      · exact uX9_hasUp_35 hM hK y0 y1 y2 hf _ _ hR hS ls (lv_sub hl [0, 1, 2] rfl)
      · refine lv_aload_n hx hb dX9_hasUp_20 rfl (lv_at hl 0 rfl) ?_
        refine lv_iload_n hx hb dX9_hasUp_21 rfl (lv_at hl 1 rfl) ?_
        refine lv_iload_n hx hb dX9_hasUp_22 rfl (lv_at hl 2 rfl) ?_
        obtain ⟨x8, h9, hf⟩ := gb hf
        refine g_callS0 (st1 := [.int x8]) [] hx hb hml hown hts hR hS ksX9_36 (mX9_step l h9) ⟨rfl, rfl, Nat.le_of_ble_eq_true rfl, Nat.le_of_ble_eq_true rfl⟩ hl.1 rfl (Nat.le_of_ble_eq_true rfl) dX9_hasUp_23 ⟨Nat.zero_le _, Nat.zero_le _⟩ rfl rfl (fun H locs hR hS => ?_)
        refine g_if_ge (tgt := 31) hx hb dX9_hasUp_26 (by decide) hf (fun h10 hf => ?_) (fun h10 hf => ?_)
        · refine lv_iload_n hx hb dX9_hasUp_31 rfl (lv_at hl 2 rfl) ?_
          refine lv_iconst (v := (1 : Int32)) hx hb dX9_hasUp_32 (by decide) ?_
          refine lv_iadd hx hb dX9_hasUp_33 ?_
          refine g_nmI hf (fun x11 hf => ?_)
          refine lv_istore_n (lv' := [(1, .int x11), (0, .ref y0), (2, .int y2)]) hx hb dX9_hasUp_34 rfl hl (by decide) rfl (fun ls hl => ?_)
          exact uX9_hasUp_35 hM hK y0 x11 y2 hf _ _ hR hS ls (lv_sub hl [1, 0, 2] rfl)
        · refine lv_iconst (v := (1 : Int32)) hx hb dX9_hasUp_29 (by decide) ?_
          refine g_zz hf (fun h12 _ hf => ?_)
          have hf := Option.some.inj hf
          subst hf
          exact g_zret hx hb hr hlocks hR hS dX9_hasUp_30 h12 rfl rfl
set_option maxHeartbeats 4000000 in
set_option maxRecDepth 100000 in
theorem mX9_hasUp (l : Launch) {B0 : Nat} {D : va_G} {v : Nat → Nat} {G : gH} {a0 : Nat} {r : Int32} (hf : fX9_hasUp v G a0 = some r) : Met l yX9_hasUp (.code yX9_hasUp cX9_hasUp 3 (some .boolean) :: gW) ({ frames := 2, cells := 0, slots := 0, locals := 43 } : Room) (gPre B0 D v [.ref a0] G) (gQ B0 D v (some (.int r)) G) 0 0 (gA B0) := by
  refine g_met (lv := [(0, .ref a0)]) (by decide) (Nat.le_of_ble_eq_true rfl) rfl ?_
  intro p e s m below meth c hM hR ls hl
  obtain ⟨hx, hb, hr, hml, hown, hts, hlocks, hnm⟩ := id hM
  have hS : va_S (gA B0) s.heap s.heap [] := va_S.rf
  unfold fX9_hasUp at hf
  refine lv_iconst (v := (0 : Int32)) hx hb dX9_hasUp_0 (by decide) ?_
  refine lv_istore_n (lv' := [(1, .int (0 : Int32)), (0, .ref a0)]) hx hb dX9_hasUp_1 rfl hl (by decide) rfl (fun ls hl => ?_)
  refine lv_iconst (v := (0 : Int32)) hx hb dX9_hasUp_2 (by decide) ?_
  refine lv_istore_n (lv' := [(2, .int (0 : Int32)), (1, .int (0 : Int32)), (0, .ref a0)]) hx hb dX9_hasUp_3 rfl hl (by decide) rfl (fun ls hl => ?_)
  exact wX9_hasUp_4 hM gFu a0 (0 : Int32) (0 : Int32) hf _ _ hR hS ls (lv_sub hl [2, 1, 0] rfl)
set_option maxHeartbeats 4000000 in
set_option maxRecDepth 100000 in
theorem uX9_heightOf_39 {p : Program} {l : Launch} {e : Env} {s : State} {m : MethodId} {args : Array Value} {below : List Frame} {meth : Method} {c : Code} {B0 : Nat} {D : va_G} {v : Nat → Nat} {r : Int32} {G : gH} {K : Nat → Int32 → Int32 → Int32 → Option Int32} (hM : gM p s m args meth c cX9_heightOf 4 RX9 "heightOf" (some .int)) (hK : ∀ (q0 : Nat) (q1 : Int32) (q2 : Int32) (q3 : Int32) (H : Heap) (locs : List Loc) (ls : Array Slot), K q0 q1 q2 q3 = some r → gRep B0 D v G s H → va_S (gA B0) s.heap H locs → lv_has ls 4 [(0, .ref q0), (1, .int q1), (2, .int q2), (3, .int q3)] → W p l e ({ frames := 2, cells := 0, slots := 0, locals := 43 } : Room) s m args below meth c H locs 0 0 (MQ below (gQ B0 D v (some (.int r)) G) args s 0 0 (gA B0)) (F0 m 6 ls [])) (y0 : Nat) (y1 : Int32) (y2 : Int32) (y3 : Int32) (hf : jX9_heightOf_39 v G K y0 y1 y2 y3 = some r) (H : Heap) (locs : List Loc) (hR : gRep B0 D v G s H) (hS : va_S (gA B0) s.heap H locs) (ls : Array Slot) (hl : lv_has ls 4 [(0, .ref y0), (1, .int y1), (2, .int y2), (3, .int y3)]) : W p l e ({ frames := 2, cells := 0, slots := 0, locals := 43 } : Room) s m args below meth c H locs 0 0 (MQ below (gQ B0 D v (some (.int r)) G) args s 0 0 (gA B0)) (F0 m 39 ls []) := by
  obtain ⟨hx, hb, hr, hml, hown, hts, hlocks, hnm⟩ := id hM
  unfold jX9_heightOf_39 at hf
  refine g_iinc (k := 3) (n' := (1 : Int32)) (lv2 := [(0, .ref y0), (1, .int y1), (2, .int y2)]) hx hb dX9_heightOf_39 hl rfl (by decide) (by decide) rfl hf (fun x1 ls hf hl => ?_)
  refine lv_goto (tgt := 6) hx hb dX9_heightOf_42 (by decide) ?_
  exact hK y0 y1 y2 x1 _ _ ls hf hR hS (lv_sub hl [1, 2, 3, 0] rfl)
set_option maxHeartbeats 4000000 in
set_option maxRecDepth 100000 in
theorem wX9_heightOf_6 {p : Program} {l : Launch} {e : Env} {s : State} {m : MethodId} {args : Array Value} {below : List Frame} {meth : Method} {c : Code} {B0 : Nat} {D : va_G} {v : Nat → Nat} {r : Int32} {G : gH} (hM : gM p s m args meth c cX9_heightOf 4 RX9 "heightOf" (some .int)) : ∀ (n : Nat) (y0 : Nat) (y1 : Int32) (y2 : Int32) (y3 : Int32), lX9_heightOf_6 v G n y0 y1 y2 y3 = some r → ∀ (H : Heap) (locs : List Loc), gRep B0 D v G s H → va_S (gA B0) s.heap H locs → ∀ (ls : Array Slot), lv_has ls 4 [(0, .ref y0), (1, .int y1), (2, .int y2), (3, .int y3)] → W p l e ({ frames := 2, cells := 0, slots := 0, locals := 43 } : Room) s m args below meth c H locs 0 0 (MQ below (gQ B0 D v (some (.int r)) G) args s 0 0 (gA B0)) (F0 m 6 ls []) := by
  obtain ⟨hx, hb, hr, hml, hown, hts, hlocks, hnm⟩ := id hM
  intro n
  induction n with
  | zero => intro y0 y1 y2 y3 hf; cases hf
  | succ n ih =>
    intro y0 y1 y2 y3 hf H locs hR hS ls hl
    have hK : ∀ (K : Nat → Int32 → Int32 → Int32 → Option Int32), K = lX9_heightOf_6 v G n → (∀ (q0 : Nat) (q1 : Int32) (q2 : Int32) (q3 : Int32) (H : Heap) (locs : List Loc) (ls : Array Slot), K q0 q1 q2 q3 = some r → gRep B0 D v G s H → va_S (gA B0) s.heap H locs → lv_has ls 4 [(0, .ref q0), (1, .int q1), (2, .int q2), (3, .int q3)] → W p l e ({ frames := 2, cells := 0, slots := 0, locals := 43 } : Room) s m args below meth c H locs 0 0 (MQ below (gQ B0 D v (some (.int r)) G) args s 0 0 (gA B0)) (F0 m 6 ls [])) := fun K hk q0 q1 q2 q3 H locs ls h1 h2 h3 h4 => ih q0 q1 q2 q3 (by rw [← hk]; exact h1) H locs h2 h3 ls h4
    have hf : bX9_heightOf_6 v G (lX9_heightOf_6 v G n) y0 y1 y2 y3 = some r := hf
    have hK := hK _ rfl
    generalize lX9_heightOf_6 v G n = K at hf hK
    unfold bX9_heightOf_6 at hf
    refine lv_iload_n hx hb dX9_heightOf_6 rfl (lv_at hl 3 rfl) ?_
    refine lv_aload_n hx hb dX9_heightOf_7 rfl (lv_at hl 0 rfl) ?_
    obtain ⟨x1, h2, hf⟩ := gb hf
    refine g_callV0 (st1 := [.int x1, .int y3]) [.int y3] hx hb hml hown hts hR hS kvX9_29 (mX7_count l h2) (oX7_count h2) ⟨rfl, rfl, Nat.le_of_ble_eq_true rfl, Nat.le_of_ble_eq_true rfl⟩ hl.1 rfl (Nat.le_of_ble_eq_true rfl) dX9_heightOf_8 ⟨Nat.zero_le _, Nat.zero_le _⟩ rfl rfl (fun H locs hR hS => ?_)
    refine g_icmp_ge (tgt := 45) hx hb dX9_heightOf_11 (by decide) hf (fun h3 hf => ?_) (fun h3 hf => ?_)
    · refine lv_iload_n hx hb dX9_heightOf_45 rfl (lv_at hl 1 rfl) ?_
      have hf := Option.some.inj hf
      subst hf
      exact g_iret hx hb hr hlocks hR hS dX9_heightOf_46 rfl rfl
    · refine lv_aload_n hx hb dX9_heightOf_14 rfl (lv_at hl 0 rfl) ?_
      refine lv_iload_n hx hb dX9_heightOf_15 rfl (lv_at hl 3 rfl) ?_
      obtain ⟨x4, h5, hf⟩ := gb hf
      refine g_callS0 (st1 := [.int x4]) [] hx hb hml hown hts hR hS ksX9_33 (mX9_isPartEnd l h5) ⟨rfl, rfl, Nat.le_of_ble_eq_true rfl, Nat.le_of_ble_eq_true rfl⟩ hl.1 rfl (Nat.le_of_ble_eq_true rfl) dX9_heightOf_16 ⟨Nat.zero_le _, Nat.zero_le _⟩ rfl rfl (fun H locs hR hS => ?_)
      refine g_if_eq (tgt := 39) hx hb dX9_heightOf_19 (by decide) hf (fun h6 hf => ?_) (fun h6 hf => ?_)
      · exact uX9_heightOf_39 hM hK y0 y1 y2 y3 hf _ _ hR hS ls (lv_sub hl [0, 1, 2, 3] rfl)
      · refine lv_iconst (v := (0 : Int32)) hx hb dX9_heightOf_22 (by decide) ?_
        refine lv_iload_n hx hb dX9_heightOf_23 rfl (lv_at hl 1 rfl) ?_
        refine lv_aload_n hx hb dX9_heightOf_24 rfl (lv_at hl 0 rfl) ?_
        refine lv_iload_n hx hb dX9_heightOf_25 rfl (lv_at hl 2 rfl) ?_
        refine lv_iload_n hx hb dX9_heightOf_26 rfl (lv_at hl 3 rfl) ?_
        obtain ⟨x7, h8, hf⟩ := gb hf
        refine g_callS0 (st1 := [.int x7, .int y1, .int (0 : Int32)]) [.int y1, .int (0 : Int32)] hx hb hml hown hts hR hS ksX9_36 (mX9_step l h8) ⟨rfl, rfl, Nat.le_of_ble_eq_true rfl, Nat.le_of_ble_eq_true rfl⟩ hl.1 rfl (Nat.le_of_ble_eq_true rfl) dX9_heightOf_27 ⟨Nat.zero_le _, Nat.zero_le _⟩ rfl rfl (fun H locs hR hS => ?_)
        refine lv_iadd hx hb dX9_heightOf_30 ?_
        refine va_mmax hx hb (hml.trans hl.1.symm) hown (hts _ mlX9_40) (hts _ mb_max_s) (hts _ mb_i) (hts _ mb_max_c) (Nat.le_of_ble_eq_true rfl) (Nat.le_of_ble_eq_true rfl) (Nat.zero_le _) (Nat.zero_le _) dX9_heightOf_31 ?_
        refine g_nmI hf (fun x9 hf => ?_)
        refine lv_istore_n (lv' := [(1, .int x9), (0, .ref y0), (2, .int y2), (3, .int y3)]) hx hb dX9_heightOf_34 rfl hl (by decide) rfl (fun ls hl => ?_)
        refine lv_iload_n hx hb dX9_heightOf_35 rfl (lv_at hl 3 rfl) ?_
        refine lv_iconst (v := (1 : Int32)) hx hb dX9_heightOf_36 (by decide) ?_
        refine lv_iadd hx hb dX9_heightOf_37 ?_
        refine g_nmI hf (fun x10 hf => ?_)
        refine lv_istore_n (lv' := [(2, .int x10), (1, .int x9), (0, .ref y0), (3, .int y3)]) hx hb dX9_heightOf_38 rfl hl (by decide) rfl (fun ls hl => ?_)
        exact uX9_heightOf_39 hM hK y0 x9 x10 y3 hf _ _ hR hS ls (lv_sub hl [2, 1, 0, 3] rfl)
set_option maxHeartbeats 4000000 in
set_option maxRecDepth 100000 in
theorem mX9_heightOf (l : Launch) {B0 : Nat} {D : va_G} {v : Nat → Nat} {G : gH} {a0 : Nat} {r : Int32} (hf : fX9_heightOf v G a0 = some r) : Met l yX9_heightOf (.code yX9_heightOf cX9_heightOf 4 (some .int) :: gW) ({ frames := 2, cells := 0, slots := 0, locals := 43 } : Room) (gPre B0 D v [.ref a0] G) (gQ B0 D v (some (.int r)) G) 0 0 (gA B0) := by
  refine g_met (lv := [(0, .ref a0)]) (by decide) (Nat.le_of_ble_eq_true rfl) rfl ?_
  intro p e s m below meth c hM hR ls hl
  obtain ⟨hx, hb, hr, hml, hown, hts, hlocks, hnm⟩ := id hM
  have hS : va_S (gA B0) s.heap s.heap [] := va_S.rf
  unfold fX9_heightOf at hf
  refine lv_iconst (v := (0 : Int32)) hx hb dX9_heightOf_0 (by decide) ?_
  refine lv_istore_n (lv' := [(1, .int (0 : Int32)), (0, .ref a0)]) hx hb dX9_heightOf_1 rfl hl (by decide) rfl (fun ls hl => ?_)
  refine lv_iconst (v := (0 : Int32)) hx hb dX9_heightOf_2 (by decide) ?_
  refine lv_istore_n (lv' := [(2, .int (0 : Int32)), (1, .int (0 : Int32)), (0, .ref a0)]) hx hb dX9_heightOf_3 rfl hl (by decide) rfl (fun ls hl => ?_)
  refine lv_iconst (v := (0 : Int32)) hx hb dX9_heightOf_4 (by decide) ?_
  refine lv_istore_n (lv' := [(3, .int (0 : Int32)), (2, .int (0 : Int32)), (1, .int (0 : Int32)), (0, .ref a0)]) hx hb dX9_heightOf_5 rfl hl (by decide) rfl (fun ls hl => ?_)
  exact wX9_heightOf_6 hM gFu a0 (0 : Int32) (0 : Int32) (0 : Int32) hf _ _ hR hS ls (lv_sub hl [3, 2, 1, 0] rfl)
set_option maxHeartbeats 4000000 in
set_option maxRecDepth 100000 in
theorem uX9_comesBelow_40 {p : Program} {l : Launch} {e : Env} {s : State} {m : MethodId} {args : Array Value} {below : List Frame} {meth : Method} {c : Code} {B0 : Nat} {D : va_G} {v : Nat → Nat} {r : Int32} {G : gH} {K : Nat → Int32 → Int32 → Int32 → Option Int32} (hM : gM p s m args meth c cX9_comesBelow 5 RX9 "comesBelow" (some .boolean)) (hK : ∀ (q0 : Nat) (q2 : Int32) (q3 : Int32) (q4 : Int32) (H : Heap) (locs : List Loc) (ls : Array Slot), K q0 q2 q3 q4 = some r → gRep B0 D v G s H → va_S (gA B0) s.heap H locs → lv_has ls 5 [(0, .ref q0), (2, .int q2), (3, .int q3), (4, .int q4)] → W p l e ({ frames := 2, cells := 0, slots := 0, locals := 43 } : Room) s m args below meth c H locs 0 0 (MQ below (gQ B0 D v (some (.int r)) G) args s 0 0 (gA B0)) (F0 m 7 ls [])) (y0 : Nat) (y2 : Int32) (y3 : Int32) (y4 : Int32) (hf : jX9_comesBelow_40 v G K y0 y2 y3 y4 = some r) (H : Heap) (locs : List Loc) (hR : gRep B0 D v G s H) (hS : va_S (gA B0) s.heap H locs) (ls : Array Slot) (hl : lv_has ls 5 [(0, .ref y0), (2, .int y2), (3, .int y3), (4, .int y4)]) : W p l e ({ frames := 2, cells := 0, slots := 0, locals := 43 } : Room) s m args below meth c H locs 0 0 (MQ below (gQ B0 D v (some (.int r)) G) args s 0 0 (gA B0)) (F0 m 40 ls []) := by
  obtain ⟨hx, hb, hr, hml, hown, hts, hlocks, hnm⟩ := id hM
  unfold jX9_comesBelow_40 at hf
  refine lv_iload_n hx hb dX9_comesBelow_40 rfl (lv_at hl 1 rfl) ?_
  refine g_if_ge (tgt := 46) hx hb dX9_comesBelow_41 (by decide) hf (fun h1 hf => ?_) (fun h1 hf => ?_)
  · refine g_iinc (k := 3) (n' := (1 : Int32)) (lv2 := [(0, .ref y0), (2, .int y2), (3, .int y3)]) hx hb dX9_comesBelow_46 hl rfl (by decide) (by decide) rfl hf (fun x2 ls hf hl => ?_)
    refine lv_goto (tgt := 7) hx hb dX9_comesBelow_49 (by decide) ?_
    exact hK y0 y2 y3 x2 _ _ ls hf hR hS (lv_sub hl [1, 2, 3, 0] rfl)
  · refine lv_iconst (v := (1 : Int32)) hx hb dX9_comesBelow_44 (by decide) ?_
    refine g_zz hf (fun h3 _ hf => ?_)
    have hf := Option.some.inj hf
    subst hf
    exact g_zret hx hb hr hlocks hR hS dX9_comesBelow_45 h3 rfl rfl
set_option maxHeartbeats 4000000 in
set_option maxRecDepth 100000 in
theorem wX9_comesBelow_7 {p : Program} {l : Launch} {e : Env} {s : State} {m : MethodId} {args : Array Value} {below : List Frame} {meth : Method} {c : Code} {B0 : Nat} {D : va_G} {v : Nat → Nat} {r : Int32} {G : gH} (hM : gM p s m args meth c cX9_comesBelow 5 RX9 "comesBelow" (some .boolean)) : ∀ (n : Nat) (y0 : Nat) (y2 : Int32) (y3 : Int32) (y4 : Int32), lX9_comesBelow_7 v G n y0 y2 y3 y4 = some r → ∀ (H : Heap) (locs : List Loc), gRep B0 D v G s H → va_S (gA B0) s.heap H locs → ∀ (ls : Array Slot), lv_has ls 5 [(0, .ref y0), (2, .int y2), (3, .int y3), (4, .int y4)] → W p l e ({ frames := 2, cells := 0, slots := 0, locals := 43 } : Room) s m args below meth c H locs 0 0 (MQ below (gQ B0 D v (some (.int r)) G) args s 0 0 (gA B0)) (F0 m 7 ls []) := by
  obtain ⟨hx, hb, hr, hml, hown, hts, hlocks, hnm⟩ := id hM
  intro n
  induction n with
  | zero => intro y0 y2 y3 y4 hf; cases hf
  | succ n ih =>
    intro y0 y2 y3 y4 hf H locs hR hS ls hl
    have hK : ∀ (K : Nat → Int32 → Int32 → Int32 → Option Int32), K = lX9_comesBelow_7 v G n → (∀ (q0 : Nat) (q2 : Int32) (q3 : Int32) (q4 : Int32) (H : Heap) (locs : List Loc) (ls : Array Slot), K q0 q2 q3 q4 = some r → gRep B0 D v G s H → va_S (gA B0) s.heap H locs → lv_has ls 5 [(0, .ref q0), (2, .int q2), (3, .int q3), (4, .int q4)] → W p l e ({ frames := 2, cells := 0, slots := 0, locals := 43 } : Room) s m args below meth c H locs 0 0 (MQ below (gQ B0 D v (some (.int r)) G) args s 0 0 (gA B0)) (F0 m 7 ls [])) := fun K hk q0 q2 q3 q4 H locs ls h1 h2 h3 h4 => ih q0 q2 q3 q4 (by rw [← hk]; exact h1) H locs h2 h3 ls h4
    have hf : bX9_comesBelow_7 v G (lX9_comesBelow_7 v G n) y0 y2 y3 y4 = some r := hf
    have hK := hK _ rfl
    generalize lX9_comesBelow_7 v G n = K at hf hK
    unfold bX9_comesBelow_7 at hf
    refine lv_iload hx hb dX9_comesBelow_7 (lv_at hl 3 rfl) ?_
    refine lv_aload_n hx hb dX9_comesBelow_9 rfl (lv_at hl 0 rfl) ?_
    obtain ⟨x1, h2, hf⟩ := gb hf
    refine g_callV0 (st1 := [.int x1, .int y4]) [.int y4] hx hb hml hown hts hR hS kvX9_29 (mX7_count l h2) (oX7_count h2) ⟨rfl, rfl, Nat.le_of_ble_eq_true rfl, Nat.le_of_ble_eq_true rfl⟩ hl.1 rfl (Nat.le_of_ble_eq_true rfl) dX9_comesBelow_10 ⟨Nat.zero_le _, Nat.zero_le _⟩ rfl rfl (fun H locs hR hS => ?_)
    refine g_icmp_gt (tgt := 52) hx hb dX9_comesBelow_13 (by decide) hf (fun h3 hf => ?_) (fun h3 hf => ?_)
    · refine lv_iconst (v := (0 : Int32)) hx hb dX9_comesBelow_52 (by decide) ?_
      refine g_zz hf (fun h4 _ hf => ?_)
      have hf := Option.some.inj hf
      subst hf
      exact g_zret hx hb hr hlocks hR hS dX9_comesBelow_53 h4 rfl rfl
    · refine lv_aload_n hx hb dX9_comesBelow_16 rfl (lv_at hl 0 rfl) ?_
      refine lv_iload hx hb dX9_comesBelow_17 (lv_at hl 3 rfl) ?_
      obtain ⟨x5, h6, hf⟩ := gb hf
      refine g_callS0 (st1 := [.int x5]) [] hx hb hml hown hts hR hS ksX9_33 (mX9_isPartEnd l h6) ⟨rfl, rfl, Nat.le_of_ble_eq_true rfl, Nat.le_of_ble_eq_true rfl⟩ hl.1 rfl (Nat.le_of_ble_eq_true rfl) dX9_comesBelow_19 ⟨Nat.zero_le _, Nat.zero_le _⟩ rfl rfl (fun H locs hR hS => ?_)
      refine g_if_eq (tgt := 40) hx hb dX9_comesBelow_22 (by decide) hf (fun h7 hf => ?_) (fun h7 hf => ?_)
      · exact uX9_comesBelow_40 hM hK y0 y2 y3 y4 hf _ _ hR hS ls (lv_sub hl [0, 1, 2, 3] rfl)
      · refine lv_iload_n hx hb dX9_comesBelow_25 rfl (lv_at hl 1 rfl) ?_
        refine lv_aload_n hx hb dX9_comesBelow_26 rfl (lv_at hl 0 rfl) ?_
        refine lv_iload_n hx hb dX9_comesBelow_27 rfl (lv_at hl 2 rfl) ?_
        refine lv_iload hx hb dX9_comesBelow_28 (lv_at hl 3 rfl) ?_
        obtain ⟨x8, h9, hf⟩ := gb hf
        refine g_callS0 (st1 := [.int x8, .int y2]) [.int y2] hx hb hml hown hts hR hS ksX9_36 (mX9_step l h9) ⟨rfl, rfl, Nat.le_of_ble_eq_true rfl, Nat.le_of_ble_eq_true rfl⟩ hl.1 rfl (Nat.le_of_ble_eq_true rfl) dX9_comesBelow_30 ⟨Nat.zero_le _, Nat.zero_le _⟩ rfl rfl (fun H locs hR hS => ?_)
        refine lv_iadd hx hb dX9_comesBelow_33 ?_
        refine g_nmI hf (fun x10 hf => ?_)
        refine lv_istore_n (lv' := [(2, .int x10), (0, .ref y0), (3, .int y3), (4, .int y4)]) hx hb dX9_comesBelow_34 rfl hl (by decide) rfl (fun ls hl => ?_)
        refine lv_iload hx hb dX9_comesBelow_35 (lv_at hl 3 rfl) ?_
        refine lv_iconst (v := (1 : Int32)) hx hb dX9_comesBelow_37 (by decide) ?_
        refine lv_iadd hx hb dX9_comesBelow_38 ?_
        refine g_nmI hf (fun x11 hf => ?_)
        refine lv_istore_n (lv' := [(3, .int x11), (2, .int x10), (0, .ref y0), (4, .int y4)]) hx hb dX9_comesBelow_39 rfl hl (by decide) rfl (fun ls hl => ?_)
        exact uX9_comesBelow_40 hM hK y0 x10 x11 y4 hf _ _ hR hS ls (lv_sub hl [2, 1, 0, 3] rfl)
set_option maxHeartbeats 4000000 in
set_option maxRecDepth 100000 in
theorem mX9_comesBelow (l : Launch) {B0 : Nat} {D : va_G} {v : Nat → Nat} {G : gH} {a0 : Nat} {a1 : Int32} {r : Int32} (hf : fX9_comesBelow v G a0 a1 = some r) : Met l yX9_comesBelow (.code yX9_comesBelow cX9_comesBelow 5 (some .boolean) :: gW) ({ frames := 2, cells := 0, slots := 0, locals := 43 } : Room) (gPre B0 D v [.ref a0, .int a1] G) (gQ B0 D v (some (.int r)) G) 0 0 (gA B0) := by
  refine g_met (lv := [(0, .ref a0), (1, .int a1)]) (by decide) (Nat.le_of_ble_eq_true rfl) rfl ?_
  intro p e s m below meth c hM hR ls hl
  obtain ⟨hx, hb, hr, hml, hown, hts, hlocks, hnm⟩ := id hM
  have hS : va_S (gA B0) s.heap s.heap [] := va_S.rf
  unfold fX9_comesBelow at hf
  refine lv_iload_n hx hb dX9_comesBelow_0 rfl (lv_at hl 1 rfl) ?_
  refine lv_istore_n (lv' := [(2, .int a1), (0, .ref a0), (1, .int a1)]) hx hb dX9_comesBelow_1 rfl hl (by decide) rfl (fun ls hl => ?_)
  refine lv_iconst (v := (0 : Int32)) hx hb dX9_comesBelow_2 (by decide) ?_
  refine lv_istore_n (lv' := [(3, .int (0 : Int32)), (2, .int a1), (0, .ref a0), (1, .int a1)]) hx hb dX9_comesBelow_3 rfl hl (by decide) rfl (fun ls hl => ?_)
  refine lv_iconst (v := (0 : Int32)) hx hb dX9_comesBelow_4 (by decide) ?_
  refine lv_istore (lv' := [(4, .int (0 : Int32)), (3, .int (0 : Int32)), (2, .int a1), (0, .ref a0), (1, .int a1)]) hx hb dX9_comesBelow_5 hl (by decide) rfl (fun ls hl => ?_)
  exact wX9_comesBelow_7 hM gFu a0 a1 (0 : Int32) (0 : Int32) hf _ _ hR hS ls (lv_sub hl [3, 2, 1, 0] rfl)
set_option maxHeartbeats 4000000 in
set_option maxRecDepth 100000 in
theorem uX9_bits_83 {p : Program} {l : Launch} {e : Env} {s : State} {m : MethodId} {args : Array Value} {below : List Frame} {meth : Method} {c : Code} {B0 : Nat} {D : va_G} {v : Nat → Nat} {r : Int32} {G : gH} (hM : gM p s m args meth c cX9_bits 4 RX9 "bits" (some .int)) (y0 : Int32) (y1 : Nat) (y2 : Nat) (y3 : Int32) (hf : jX9_bits_83 v G y0 y1 y2 y3 = some r) (H : Heap) (locs : List Loc) (hR : gRep B0 D v G s H) (hS : va_S (gA B0) s.heap H locs) (ls : Array Slot) (hl : lv_has ls 4 [(0, .int y0), (1, .ref y1), (2, .ref y2), (3, .int y3)]) : W p l e ({ frames := 3, cells := 0, slots := 0, locals := 67 } : Room) s m args below meth c H locs 0 0 (MQ below (gQ B0 D v (some (.int r)) G) args s 0 0 (gA B0)) (F0 m 83 ls []) := by
  obtain ⟨hx, hb, hr, hml, hown, hts, hlocks, hnm⟩ := id hM
  unfold jX9_bits_83 at hf
  refine lv_iload_n hx hb dX9_bits_83 rfl (lv_at hl 0 rfl) ?_
  refine lv_bipush (v := (50 : Int32)) hx hb dX9_bits_84 (by decide) ?_
  refine g_icmp_ne (tgt := 109) hx hb dX9_bits_86 (by decide) hf (fun h1 hf => ?_) (fun h1 hf => ?_)
  · refine lv_iload_n hx hb dX9_bits_109 rfl (lv_at hl 3 rfl) ?_
    have hf := Option.some.inj hf
    subst hf
    exact g_iret hx hb hr hlocks hR hS dX9_bits_110 rfl rfl
  · refine lv_iload_n hx hb dX9_bits_89 rfl (lv_at hl 3 rfl) ?_
    refine lv_aload_n hx hb dX9_bits_90 rfl (lv_at hl 2 rfl) ?_
    refine lv_aload_n hx hb dX9_bits_91 rfl (lv_at hl 1 rfl) ?_
    obtain ⟨x2, h3, hf⟩ := gb hf
    refine g_callS0 (st1 := [.int x2, .ref y2, .int y3]) [.ref y2, .int y3] hx hb hml hown hts hR hS ksX9_21 (mX9_heightOf l h3) ⟨rfl, rfl, Nat.le_of_ble_eq_true rfl, Nat.le_of_ble_eq_true rfl⟩ hl.1 rfl (Nat.le_of_ble_eq_true rfl) dX9_bits_92 ⟨Nat.zero_le _, Nat.zero_le _⟩ rfl rfl (fun H locs hR hS => ?_)
    obtain ⟨x4, h5, hf⟩ := gb hf
    refine g_callS0 (st1 := [.int x4, .int y3]) [.int y3] hx hb hml hown hts hR hS ksX9_25 (mX9_comesBelow l h5) ⟨rfl, rfl, Nat.le_of_ble_eq_true rfl, Nat.le_of_ble_eq_true rfl⟩ hl.1 rfl (Nat.le_of_ble_eq_true rfl) dX9_bits_95 ⟨Nat.zero_le _, Nat.zero_le _⟩ rfl rfl (fun H locs hR hS => ?_)
    refine g_if_eq (tgt := 106) hx hb dX9_bits_98 (by decide) hf (fun h6 hf => ?_) (fun h6 hf => ?_)
    · refine lv_iconst (v := (0 : Int32)) hx hb dX9_bits_106 (by decide) ?_
      refine lv_ior hx hb dX9_bits_107 ?_
      refine g_nmI hf (fun x7 hf => ?_)
      refine lv_istore_n (lv' := [(3, .int x7), (0, .int y0), (1, .ref y1), (2, .ref y2)]) hx hb dX9_bits_108 rfl hl (by decide) rfl (fun ls hl => ?_)
      refine lv_iload_n hx hb dX9_bits_109 rfl (lv_at hl 0 rfl) ?_
      have hf := Option.some.inj hf
      subst hf
      exact g_iret hx hb hr hlocks hR hS dX9_bits_110 rfl rfl
    · refine lv_bipush (v := (8 : Int32)) hx hb dX9_bits_101 (by decide) ?_
      refine lv_goto (tgt := 107) hx hb dX9_bits_103 (by decide) ?_
      refine lv_ior hx hb dX9_bits_107 ?_
      refine g_nmI hf (fun x8 hf => ?_)
      refine lv_istore_n (lv' := [(3, .int x8), (0, .int y0), (1, .ref y1), (2, .ref y2)]) hx hb dX9_bits_108 rfl hl (by decide) rfl (fun ls hl => ?_)
      refine lv_iload_n hx hb dX9_bits_109 rfl (lv_at hl 0 rfl) ?_
      have hf := Option.some.inj hf
      subst hf
      exact g_iret hx hb hr hlocks hR hS dX9_bits_110 rfl rfl
set_option maxHeartbeats 4000000 in
set_option maxRecDepth 100000 in
theorem uX9_bits_81 {p : Program} {l : Launch} {e : Env} {s : State} {m : MethodId} {args : Array Value} {below : List Frame} {meth : Method} {c : Code} {B0 : Nat} {D : va_G} {v : Nat → Nat} {r : Int32} {G : gH} (hM : gM p s m args meth c cX9_bits 4 RX9 "bits" (some .int)) (y0 : Int32) (y1 : Nat) (y2 : Nat) (z0 : Int32) (z1 : Int32) (hf : jX9_bits_81 v G y0 y1 y2 z0 z1 = some r) (H : Heap) (locs : List Loc) (hR : gRep B0 D v G s H) (hS : va_S (gA B0) s.heap H locs) (ls : Array Slot) (hl : lv_has ls 4 [(0, .int y0), (1, .ref y1), (2, .ref y2)]) : W p l e ({ frames := 3, cells := 0, slots := 0, locals := 67 } : Room) s m args below meth c H locs 0 0 (MQ below (gQ B0 D v (some (.int r)) G) args s 0 0 (gA B0)) (F0 m 81 ls [.int z0, .int z1]) := by
  obtain ⟨hx, hb, hr, hml, hown, hts, hlocks, hnm⟩ := id hM
  unfold jX9_bits_81 at hf
  refine lv_ior hx hb dX9_bits_81 ?_
  refine g_nmI hf (fun x1 hf => ?_)
  refine lv_istore_n (lv' := [(3, .int x1), (0, .int y0), (1, .ref y1), (2, .ref y2)]) hx hb dX9_bits_82 rfl hl (by decide) rfl (fun ls hl => ?_)
  exact uX9_bits_83 hM y0 y1 y2 x1 hf _ _ hR hS ls (lv_sub hl [1, 2, 3, 0] rfl)
set_option maxHeartbeats 4000000 in
set_option maxRecDepth 100000 in
theorem uX9_bits_61 {p : Program} {l : Launch} {e : Env} {s : State} {m : MethodId} {args : Array Value} {below : List Frame} {meth : Method} {c : Code} {B0 : Nat} {D : va_G} {v : Nat → Nat} {r : Int32} {G : gH} (hM : gM p s m args meth c cX9_bits 4 RX9 "bits" (some .int)) (y0 : Int32) (y1 : Nat) (y2 : Nat) (y3 : Int32) (hf : jX9_bits_61 v G y0 y1 y2 y3 = some r) (H : Heap) (locs : List Loc) (hR : gRep B0 D v G s H) (hS : va_S (gA B0) s.heap H locs) (ls : Array Slot) (hl : lv_has ls 4 [(0, .int y0), (1, .ref y1), (2, .ref y2), (3, .int y3)]) : W p l e ({ frames := 3, cells := 0, slots := 0, locals := 67 } : Room) s m args below meth c H locs 0 0 (MQ below (gQ B0 D v (some (.int r)) G) args s 0 0 (gA B0)) (F0 m 61 ls []) := by
  obtain ⟨hx, hb, hr, hml, hown, hts, hlocks, hnm⟩ := id hM
  unfold jX9_bits_61 at hf
  refine lv_iload_n hx hb dX9_bits_61 rfl (lv_at hl 0 rfl) ?_
  refine lv_bipush (v := (49 : Int32)) hx hb dX9_bits_62 (by decide) ?_
  refine g_icmp_ne (tgt := 83) hx hb dX9_bits_64 (by decide) hf (fun h1 hf => ?_) (fun h1 hf => ?_)
  · exact uX9_bits_83 hM y0 y1 y2 y3 hf _ _ hR hS ls (lv_sub hl [0, 1, 2, 3] rfl)
  · refine lv_iload_n hx hb dX9_bits_67 rfl (lv_at hl 3 rfl) ?_
    refine lv_aload_n hx hb dX9_bits_68 rfl (lv_at hl 2 rfl) ?_
    obtain ⟨x2, h3, hf⟩ := gb hf
    refine g_callS0 (st1 := [.int x2, .int y3]) [.int y3] hx hb hml hown hts hR hS ksX9_15 (mX9_hasUp l h3) ⟨rfl, rfl, Nat.le_of_ble_eq_true rfl, Nat.le_of_ble_eq_true rfl⟩ hl.1 rfl (Nat.le_of_ble_eq_true rfl) dX9_bits_69 ⟨Nat.zero_le _, Nat.zero_le _⟩ rfl rfl (fun H locs hR hS => ?_)
    refine g_if_eq (tgt := 80) hx hb dX9_bits_72 (by decide) hf (fun h4 hf => ?_) (fun h4 hf => ?_)
    · refine lv_iconst (v := (0 : Int32)) hx hb dX9_bits_80 (by decide) ?_
      exact uX9_bits_81 hM y0 y1 y2 (0 : Int32) y3 hf _ _ hR hS ls (lv_sub hl [0, 1, 2] rfl)
    · refine lv_bipush (v := (8 : Int32)) hx hb dX9_bits_75 (by decide) ?_
      refine lv_goto (tgt := 81) hx hb dX9_bits_77 (by decide) ?_
      exact uX9_bits_81 hM y0 y1 y2 (8 : Int32) y3 hf _ _ hR hS ls (lv_sub hl [0, 1, 2] rfl)
set_option maxHeartbeats 4000000 in
set_option maxRecDepth 100000 in
theorem uX9_bits_59 {p : Program} {l : Launch} {e : Env} {s : State} {m : MethodId} {args : Array Value} {below : List Frame} {meth : Method} {c : Code} {B0 : Nat} {D : va_G} {v : Nat → Nat} {r : Int32} {G : gH} (hM : gM p s m args meth c cX9_bits 4 RX9 "bits" (some .int)) (y0 : Int32) (y1 : Nat) (y2 : Nat) (z0 : Int32) (z1 : Int32) (hf : jX9_bits_59 v G y0 y1 y2 z0 z1 = some r) (H : Heap) (locs : List Loc) (hR : gRep B0 D v G s H) (hS : va_S (gA B0) s.heap H locs) (ls : Array Slot) (hl : lv_has ls 4 [(0, .int y0), (1, .ref y1), (2, .ref y2)]) : W p l e ({ frames := 3, cells := 0, slots := 0, locals := 67 } : Room) s m args below meth c H locs 0 0 (MQ below (gQ B0 D v (some (.int r)) G) args s 0 0 (gA B0)) (F0 m 59 ls [.int z0, .int z1]) := by
  obtain ⟨hx, hb, hr, hml, hown, hts, hlocks, hnm⟩ := id hM
  unfold jX9_bits_59 at hf
  refine lv_ior hx hb dX9_bits_59 ?_
  refine g_nmI hf (fun x1 hf => ?_)
  refine lv_istore_n (lv' := [(3, .int x1), (0, .int y0), (1, .ref y1), (2, .ref y2)]) hx hb dX9_bits_60 rfl hl (by decide) rfl (fun ls hl => ?_)
  exact uX9_bits_61 hM y0 y1 y2 x1 hf _ _ hR hS ls (lv_sub hl [1, 2, 3, 0] rfl)
set_option maxHeartbeats 4000000 in
set_option maxRecDepth 100000 in
theorem uX9_bits_43 {p : Program} {l : Launch} {e : Env} {s : State} {m : MethodId} {args : Array Value} {below : List Frame} {meth : Method} {c : Code} {B0 : Nat} {D : va_G} {v : Nat → Nat} {r : Int32} {G : gH} (hM : gM p s m args meth c cX9_bits 4 RX9 "bits" (some .int)) (y0 : Int32) (y1 : Nat) (y2 : Nat) (y3 : Int32) (hf : jX9_bits_43 v G y0 y1 y2 y3 = some r) (H : Heap) (locs : List Loc) (hR : gRep B0 D v G s H) (hS : va_S (gA B0) s.heap H locs) (ls : Array Slot) (hl : lv_has ls 4 [(0, .int y0), (1, .ref y1), (2, .ref y2), (3, .int y3)]) : W p l e ({ frames := 3, cells := 0, slots := 0, locals := 67 } : Room) s m args below meth c H locs 0 0 (MQ below (gQ B0 D v (some (.int r)) G) args s 0 0 (gA B0)) (F0 m 43 ls []) := by
  obtain ⟨hx, hb, hr, hml, hown, hts, hlocks, hnm⟩ := id hM
  unfold jX9_bits_43 at hf
  refine lv_iload_n hx hb dX9_bits_43 rfl (lv_at hl 3 rfl) ?_
  refine lv_aload_n hx hb dX9_bits_44 rfl (lv_at hl 2 rfl) ?_
  refine lv_iconst (v := (0 : Int32)) hx hb dX9_bits_45 (by decide) ?_
  obtain ⟨x1, h2, hf⟩ := gb hf
  refine g_callV0 (st1 := [.int x1, .int y3]) [.int y3] hx hb hml hown hts hR hS kvX9_9 (mX7_at l h2) (oX7_at h2) ⟨rfl, rfl, Nat.le_of_ble_eq_true rfl, Nat.le_of_ble_eq_true rfl⟩ hl.1 rfl (Nat.le_of_ble_eq_true rfl) dX9_bits_46 ⟨Nat.zero_le _, Nat.zero_le _⟩ rfl rfl (fun H locs hR hS => ?_)
  refine lv_bipush (v := (47 : Int32)) hx hb dX9_bits_49 (by decide) ?_
  refine g_icmp_ne (tgt := 58) hx hb dX9_bits_51 (by decide) hf (fun h3 hf => ?_) (fun h3 hf => ?_)
  · refine lv_iconst (v := (0 : Int32)) hx hb dX9_bits_58 (by decide) ?_
    exact uX9_bits_59 hM y0 y1 y2 (0 : Int32) y3 hf _ _ hR hS ls (lv_sub hl [0, 1, 2] rfl)
  · refine lv_iconst (v := (4 : Int32)) hx hb dX9_bits_54 (by decide) ?_
    refine lv_goto (tgt := 59) hx hb dX9_bits_55 (by decide) ?_
    exact uX9_bits_59 hM y0 y1 y2 (4 : Int32) y3 hf _ _ hR hS ls (lv_sub hl [0, 1, 2] rfl)
set_option maxHeartbeats 4000000 in
set_option maxRecDepth 100000 in
theorem uX9_bits_29 {p : Program} {l : Launch} {e : Env} {s : State} {m : MethodId} {args : Array Value} {below : List Frame} {meth : Method} {c : Code} {B0 : Nat} {D : va_G} {v : Nat → Nat} {r : Int32} {G : gH} (hM : gM p s m args meth c cX9_bits 4 RX9 "bits" (some .int)) (y0 : Int32) (y1 : Nat) (y2 : Nat) (z0 : Int32) (z1 : Int32) (hf : jX9_bits_29 v G y0 y1 y2 z0 z1 = some r) (H : Heap) (locs : List Loc) (hR : gRep B0 D v G s H) (hS : va_S (gA B0) s.heap H locs) (ls : Array Slot) (hl : lv_has ls 4 [(0, .int y0), (1, .ref y1), (2, .ref y2)]) : W p l e ({ frames := 3, cells := 0, slots := 0, locals := 67 } : Room) s m args below meth c H locs 0 0 (MQ below (gQ B0 D v (some (.int r)) G) args s 0 0 (gA B0)) (F0 m 29 ls [.int z0, .int z1]) := by
  obtain ⟨hx, hb, hr, hml, hown, hts, hlocks, hnm⟩ := id hM
  unfold jX9_bits_29 at hf
  refine lv_ior hx hb dX9_bits_29 ?_
  refine g_nmI hf (fun x1 hf => ?_)
  refine lv_istore_n (lv' := [(3, .int x1), (0, .int y0), (1, .ref y1), (2, .ref y2)]) hx hb dX9_bits_30 rfl hl (by decide) rfl (fun ls hl => ?_)
  refine lv_iload_n hx hb dX9_bits_31 rfl (lv_at hl 1 rfl) ?_
  refine lv_bipush (v := (49 : Int32)) hx hb dX9_bits_32 (by decide) ?_
  refine g_icmp_eq (tgt := 43) hx hb dX9_bits_34 (by decide) hf (fun h2 hf => ?_) (fun h2 hf => ?_)
  · exact uX9_bits_43 hM y0 y1 y2 x1 hf _ _ hR hS ls (lv_sub hl [1, 2, 3, 0] rfl)
  · refine lv_iload_n hx hb dX9_bits_37 rfl (lv_at hl 1 rfl) ?_
    refine lv_bipush (v := (50 : Int32)) hx hb dX9_bits_38 (by decide) ?_
    refine g_icmp_ne (tgt := 61) hx hb dX9_bits_40 (by decide) hf (fun h3 hf => ?_) (fun h3 hf => ?_)
    · exact uX9_bits_61 hM y0 y1 y2 x1 hf _ _ hR hS ls (lv_sub hl [1, 2, 3, 0] rfl)
    · exact uX9_bits_43 hM y0 y1 y2 x1 hf _ _ hR hS ls (lv_sub hl [1, 2, 3, 0] rfl)
set_option maxHeartbeats 4000000 in
set_option maxRecDepth 100000 in
theorem uX9_bits_15 {p : Program} {l : Launch} {e : Env} {s : State} {m : MethodId} {args : Array Value} {below : List Frame} {meth : Method} {c : Code} {B0 : Nat} {D : va_G} {v : Nat → Nat} {r : Int32} {G : gH} (hM : gM p s m args meth c cX9_bits 4 RX9 "bits" (some .int)) (y0 : Int32) (y1 : Nat) (y2 : Nat) (z0 : Int32) (hf : jX9_bits_15 v G y0 y1 y2 z0 = some r) (H : Heap) (locs : List Loc) (hR : gRep B0 D v G s H) (hS : va_S (gA B0) s.heap H locs) (ls : Array Slot) (hl : lv_has ls 4 [(0, .int y0), (1, .ref y1), (2, .ref y2)]) : W p l e ({ frames := 3, cells := 0, slots := 0, locals := 67 } : Room) s m args below meth c H locs 0 0 (MQ below (gQ B0 D v (some (.int r)) G) args s 0 0 (gA B0)) (F0 m 15 ls [.int z0]) := by
  obtain ⟨hx, hb, hr, hml, hown, hts, hlocks, hnm⟩ := id hM
  unfold jX9_bits_15 at hf
  refine lv_istore_n (lv' := [(3, .int z0), (0, .int y0), (1, .ref y1), (2, .ref y2)]) hx hb dX9_bits_15 rfl hl (by decide) rfl (fun ls hl => ?_)
  refine lv_iload_n hx hb dX9_bits_16 rfl (lv_at hl 0 rfl) ?_
  refine lv_aload_n hx hb dX9_bits_17 rfl (lv_at hl 2 rfl) ?_
  obtain ⟨x1, h2, hf⟩ := gb hf
  refine g_callS0 (st1 := [.int x1, .int z0]) [.int z0] hx hb hml hown hts hR hS ksX9_15 (mX9_hasUp l h2) ⟨rfl, rfl, Nat.le_of_ble_eq_true rfl, Nat.le_of_ble_eq_true rfl⟩ hl.1 rfl (Nat.le_of_ble_eq_true rfl) dX9_bits_18 ⟨Nat.zero_le _, Nat.zero_le _⟩ rfl rfl (fun H locs hR hS => ?_)
  refine g_if_eq (tgt := 28) hx hb dX9_bits_21 (by decide) hf (fun h3 hf => ?_) (fun h3 hf => ?_)
  · refine lv_iconst (v := (0 : Int32)) hx hb dX9_bits_28 (by decide) ?_
    exact uX9_bits_29 hM y0 y1 y2 (0 : Int32) z0 hf _ _ hR hS ls (lv_sub hl [1, 2, 3] rfl)
  · refine lv_iconst (v := (2 : Int32)) hx hb dX9_bits_24 (by decide) ?_
    refine lv_goto (tgt := 29) hx hb dX9_bits_25 (by decide) ?_
    exact uX9_bits_29 hM y0 y1 y2 (2 : Int32) z0 hf _ _ hR hS ls (lv_sub hl [1, 2, 3] rfl)
set_option maxHeartbeats 4000000 in
set_option maxRecDepth 100000 in
theorem mX9_bits (l : Launch) {B0 : Nat} {D : va_G} {v : Nat → Nat} {G : gH} {a0 : Int32} {a1 : Nat} {a2 : Nat} {r : Int32} (hf : fX9_bits v G a0 a1 a2 = some r) : Met l yX9_bits (.code yX9_bits cX9_bits 4 (some .int) :: gW) ({ frames := 3, cells := 0, slots := 0, locals := 67 } : Room) (gPre B0 D v [.int a0, .ref a1, .ref a2] G) (gQ B0 D v (some (.int r)) G) 0 0 (gA B0) := by
  refine g_met (lv := [(0, .int a0), (1, .ref a1), (2, .ref a2)]) (by decide) (Nat.le_of_ble_eq_true rfl) rfl ?_
  intro p e s m below meth c hM hR ls hl
  obtain ⟨hx, hb, hr, hml, hown, hts, hlocks, hnm⟩ := id hM
  have hS : va_S (gA B0) s.heap s.heap [] := va_S.rf
  unfold fX9_bits at hf
  refine lv_aload_n hx hb dX9_bits_0 rfl (lv_at hl 1 rfl) ?_
  refine lv_iconst (v := (0 : Int32)) hx hb dX9_bits_1 (by decide) ?_
  obtain ⟨x1, h2, hf⟩ := gb hf
  refine g_callV0 (st1 := [.int x1]) [] hx hb hml hown hts hR hS kvX9_9 (mX7_at l h2) (oX7_at h2) ⟨rfl, rfl, Nat.le_of_ble_eq_true rfl, Nat.le_of_ble_eq_true rfl⟩ hl.1 rfl (Nat.le_of_ble_eq_true rfl) dX9_bits_2 ⟨Nat.zero_le _, Nat.zero_le _⟩ rfl rfl (fun H locs hR hS => ?_)
  refine lv_bipush (v := (47 : Int32)) hx hb dX9_bits_5 (by decide) ?_
  refine g_icmp_ne (tgt := 14) hx hb dX9_bits_7 (by decide) hf (fun h3 hf => ?_) (fun h3 hf => ?_)
  · refine lv_iconst (v := (0 : Int32)) hx hb dX9_bits_14 (by decide) ?_
    exact uX9_bits_15 hM a0 a1 a2 (0 : Int32) hf _ _ hR hS ls (lv_sub hl [0, 1, 2] rfl)
  · refine lv_iconst (v := (1 : Int32)) hx hb dX9_bits_10 (by decide) ?_
    refine lv_goto (tgt := 15) hx hb dX9_bits_11 (by decide) ?_
    exact uX9_bits_15 hM a0 a1 a2 (1 : Int32) hf _ _ hR hS ls (lv_sub hl [0, 1, 2] rfl)
