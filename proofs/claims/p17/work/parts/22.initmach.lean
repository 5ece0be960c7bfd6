theorem oX7_init {v : Nat → Nat} {G : gH} {a0 : Nat} {a1 : Int32} {r : gH} (h : fX7_init v G a0 a1 = some r) : gOb G a0 7 = some () := by
  unfold fX7_init at h
  obtain ⟨u, hu, -⟩ := gb h
  exact hu
set_option maxHeartbeats 4000000 in
set_option maxRecDepth 100000 in
theorem mX7_init (l : Launch) {B0 : Nat} {D : va_G} {v : Nat → Nat} {G : gH} {a0 : Nat} {a1 : Int32} {r : gH} (hf : fX7_init v G a0 a1 = some r) : Met l yX7_init (.code yX7_init cX7_init 2 none :: gW) ({ frames := 1, cells := 1, slots := a1.toNatClampNeg, locals := 21 } : Room) (gPre B0 D v [.ref a0, .int a1] G) (gQ B0 D v none r) (1) (a1.toNatClampNeg) (gA B0) := by
  refine g_met (lv := [(0, .ref a0), (1, .int a1)]) (by decide) (Nat.le_of_ble_eq_true rfl) rfl ?_
  intro p e s m below meth c hM hR ls hl
  obtain ⟨hx, hb, hr, hml, hown, hts, hlocks, hnm⟩ := id hM
  have hS : va_S (gA B0) s.heap s.heap [] := va_S.rf
  unfold fX7_init at hf
  obtain ⟨-, -, hf⟩ := gb hf
  refine lv_aload_n hx hb dX7_init_0 rfl (lv_at hl 0 rfl) ?_
  refine g_obj hx hb (hml.trans hl.1.symm) hown hts obX7_3 ob_i ob_c dX7_init_1 (Nat.le_of_ble_eq_true rfl) (Nat.le_of_ble_eq_true rfl) ?_
  refine lv_aload_n hx hb dX7_init_4 rfl (lv_at hl 0 rfl) ?_
  refine lv_iconst (v := (0 : Int32)) hx hb dX7_init_5 (by decide) ?_
  refine g_put hx hb hts hown hR hS lpX7_9 (Or.inl rfl) rfl rfl dX7_init_6 hf (fun G1 H locs hf hR hS => ?_)
  refine lv_aload_n hx hb dX7_init_9 rfl (lv_at hl 0 rfl) ?_
  refine lv_iload_n hx hb dX7_init_10 rfl (lv_at hl 1 rfl) ?_
  refine lv_iconst (v := (0 : Int32)) hx hb dX7_init_11 (by decide) ?_
  refine va_mmax hx hb (hml.trans hl.1.symm) hown (hts _ mlX7_15) (hts _ mb_max_s) (hts _ mb_i) (hts _ mb_max_c) (Nat.le_of_ble_eq_true rfl) (Nat.le_of_ble_eq_true rfl) (Nat.zero_le _) (Nat.zero_le _) dX7_init_12 ?_
  refine g_nmI hf (fun x2 hf => ?_)
  refine g_ck hf (fun h4 hf => ?_)
  refine g_newaN (atype := .byte) (k1 := 1) (n1 := (0 + x2.toNatClampNeg)) hx hb hts hR hS ac_byte rfl rfl (fun C h => by cases h) (by decide) rfl rfl rfl h4 dX7_init_15 hf (fun G3 H hf hR hS => ?_)
  refine g_put hx hb hts hown hR hS lpX7_21 (Or.inr hnm) rfl rfl dX7_init_17 hf (fun G5 H locs hf hR hS => ?_)
  refine g_ck hf (fun h6 hf => ?_)
  refine W.widen (k := 1) (n := a1.toNatClampNeg) h6.1 h6.2 ?_
  have hf := Option.some.inj hf
  subst hf
  exact g_vret hx hb hr hlocks hR hS dX7_init_20 rfl
theorem oX0_init {v : Nat → Nat} {G : gH} {a0 : Nat} {r : gH} (h : fX0_init v G a0 = some r) : gOb G a0 0 = some () := by
  unfold fX0_init at h
  obtain ⟨u, hu, -⟩ := gb h
  exact hu
set_option maxHeartbeats 4000000 in
set_option maxRecDepth 100000 in
theorem mX0_init (l : Launch) {B0 : Nat} {D : va_G} {v : Nat → Nat} {G : gH} {a0 : Nat} {r : gH} (hf : fX0_init v G a0 = some r) : Met l yX0_init (.code yX0_init cX0_init 1 none :: gW) ({ frames := 2, cells := 4, slots := 900, locals := 42 } : Room) (gPre B0 D v [.ref a0] G) (gQ B0 D v none r) (4) (900) (gA B0) := by
  refine g_met (lv := [(0, .ref a0)]) (by decide) (Nat.le_of_ble_eq_true rfl) rfl ?_
  intro p e s m below meth c hM hR ls hl
  obtain ⟨hx, hb, hr, hml, hown, hts, hlocks, hnm⟩ := id hM
  have hS : va_S (gA B0) s.heap s.heap [] := va_S.rf
  unfold fX0_init at hf
  obtain ⟨-, -, hf⟩ := gb hf
  refine lv_aload_n hx hb dX0_init_0 rfl (lv_at hl 0 rfl) ?_
  refine g_obj hx hb (hml.trans hl.1.symm) hown hts obX0_3 ob_i ob_c dX0_init_1 (Nat.le_of_ble_eq_true rfl) (Nat.le_of_ble_eq_true rfl) ?_
  refine lv_aload_n hx hb dX0_init_4 rfl (lv_at hl 0 rfl) ?_
  refine g_newN (k1 := 1) (n1 := 2) hx hb hts hown hR hS lnX0_9 rfl rfl ⟨Nat.le_of_ble_eq_true rfl, Nat.le_of_ble_eq_true rfl⟩ dX0_init_5 hf (fun G1 H hf hR hS => ?_)
  refine lv_dup hx hb dX0_init_8 rfl ?_
  refine lv_sipush (v := (400 : Int32)) hx hb dX0_init_9 (by decide) ?_
  obtain ⟨G5, h4, hf⟩ := gb hf
  refine g_callI (mc := 1) (ms := 400) (rest := [.ref G.2.2, .ref a0]) hx hb hml hown hts hR hS kjX0_11 (mX7_init l h4) ⟨rfl, rfl, Nat.le_of_ble_eq_true rfl, Nat.le_of_ble_eq_true rfl⟩ hl.1 rfl (Nat.le_of_ble_eq_true rfl) dX0_init_12 ⟨Nat.le_of_ble_eq_true rfl, Nat.le_of_ble_eq_true rfl⟩ rfl (fun H locs _ hR hS => ?_)
  refine W.eq (g2 := F0 m 15 ls [.ref G.2.2, .ref a0]) rfl ?_
  refine W.widen (k := 2) (n := 402) (Nat.le_refl _) (Nat.le_refl _) ?_
  refine g_put hx hb hts hown hR hS lpX0_14 (Or.inr hnm) rfl rfl dX0_init_15 hf (fun G6 H locs hf hR hS => ?_)
  refine lv_aload_n hx hb dX0_init_18 rfl (lv_at hl 0 rfl) ?_
  refine g_newN (k1 := 3) (n1 := 404) hx hb hts hown hR hS lnX0_9 rfl rfl ⟨Nat.le_of_ble_eq_true rfl, Nat.le_of_ble_eq_true rfl⟩ dX0_init_19 hf (fun G7 H hf hR hS => ?_)
  refine lv_dup hx hb dX0_init_22 rfl ?_
  refine lv_sipush (v := (400 : Int32)) hx hb dX0_init_23 (by decide) ?_
  obtain ⟨G11, h10, hf⟩ := gb hf
  refine g_callI (mc := 1) (ms := 400) (rest := [.ref G6.2.2, .ref a0]) hx hb hml hown hts hR hS kjX0_11 (mX7_init l h10) ⟨rfl, rfl, Nat.le_of_ble_eq_true rfl, Nat.le_of_ble_eq_true rfl⟩ hl.1 rfl (Nat.le_of_ble_eq_true rfl) dX0_init_26 ⟨Nat.le_of_ble_eq_true rfl, Nat.le_of_ble_eq_true rfl⟩ rfl (fun H locs _ hR hS => ?_)
  refine W.eq (g2 := F0 m 29 ls [.ref G6.2.2, .ref a0]) rfl ?_
  refine W.widen (k := 4) (n := 804) (Nat.le_refl _) (Nat.le_refl _) ?_
  refine g_put hx hb hts hown hR hS lpX0_20 (Or.inr hnm) rfl rfl dX0_init_29 hf (fun G12 H locs hf hR hS => ?_)
  refine lv_aload_n hx hb dX0_init_32 rfl (lv_at hl 0 rfl) ?_
  refine lv_ldc2 (v := (-1 : Int64)) hx hb hown (hts _ kcX0_23) dX0_init_33 ?_
  refine g_put hx hb hts hown hR hS lpX0_25 (Or.inl rfl) rfl rfl dX0_init_36 hf (fun G13 H locs hf hR hS => ?_)
  refine lv_aload_n hx hb dX0_init_39 rfl (lv_at hl 0 rfl) ?_
  refine lv_ldc2 (v := (-1 : Int64)) hx hb hown (hts _ kcX0_23) dX0_init_40 ?_
  refine g_put hx hb hts hown hR hS lpX0_29 (Or.inl rfl) rfl rfl dX0_init_43 hf (fun G14 H locs hf hR hS => ?_)
  refine lv_aload_n hx hb dX0_init_46 rfl (lv_at hl 0 rfl) ?_
  refine lv_ldc2 (v := (-1 : Int64)) hx hb hown (hts _ kcX0_23) dX0_init_47 ?_
  refine g_put hx hb hts hown hR hS lpX0_32 (Or.inl rfl) rfl rfl dX0_init_50 hf (fun G15 H locs hf hR hS => ?_)
  refine lv_aload_n hx hb dX0_init_53 rfl (lv_at hl 0 rfl) ?_
  refine lv_iconst (v := (0 : Int32)) hx hb dX0_init_54 (by decide) ?_
  refine g_zz hf (fun h17 h18 hf => ?_)
  refine g_put hx hb hts hown hR hS lpX0_35 (Or.inl rfl) h17 h18 dX0_init_55 hf (fun G19 H locs hf hR hS => ?_)
  refine lv_aload_n hx hb dX0_init_58 rfl (lv_at hl 0 rfl) ?_
  refine lv_lconst (v := (0 : Int64)) hx hb dX0_init_59 (by decide) ?_
  refine g_put hx hb hts hown hR hS lpX0_39 (Or.inl rfl) rfl rfl dX0_init_60 hf (fun G20 H locs hf hR hS => ?_)
  refine lv_aload_n hx hb dX0_init_63 rfl (lv_at hl 0 rfl) ?_
  refine lv_lconst (v := (0 : Int64)) hx hb dX0_init_64 (by decide) ?_
  refine g_put hx hb hts hown hR hS lpX0_42 (Or.inl rfl) rfl rfl dX0_init_65 hf (fun G21 H locs hf hR hS => ?_)
  refine W.widen (k := 4) (n := 900) (Nat.le_of_ble_eq_true rfl) (Nat.le_of_ble_eq_true rfl) ?_
  have hf := Option.some.inj hf
  subst hf
  exact g_vret hx hb hr hlocks hR hS dX0_init_68 rfl
theorem oX4_init {v : Nat → Nat} {G : gH} {a0 : Nat} {r : gH} (h : fX4_init v G a0 = some r) : gOb G a0 4 = some () := by
  unfold fX4_init at h
  obtain ⟨u, hu, -⟩ := gb h
  exact hu
set_option maxHeartbeats 4000000 in
set_option maxRecDepth 100000 in
theorem mX4_init (l : Launch) {B0 : Nat} {D : va_G} {v : Nat → Nat} {G : gH} {a0 : Nat} {r : gH} (hf : fX4_init v G a0 = some r) : Met l yX4_init (.code yX4_init cX4_init 1 none :: gW) ({ frames := 1, cells := 0, slots := 0, locals := 21 } : Room) (gPre B0 D v [.ref a0] G) (gQ B0 D v none r) (0) (0) (gA B0) := by
  refine g_met (lv := [(0, .ref a0)]) (by decide) (Nat.le_of_ble_eq_true rfl) rfl ?_
  intro p e s m below meth c hM hR ls hl
  obtain ⟨hx, hb, hr, hml, hown, hts, hlocks, hnm⟩ := id hM
  have hS : va_S (gA B0) s.heap s.heap [] := va_S.rf
  unfold fX4_init at hf
  obtain ⟨-, -, hf⟩ := gb hf
  refine lv_aload_n hx hb dX4_init_0 rfl (lv_at hl 0 rfl) ?_
  refine g_obj hx hb (hml.trans hl.1.symm) hown hts obX4_1 ob_i ob_c dX4_init_1 (Nat.le_of_ble_eq_true rfl) (Nat.le_of_ble_eq_true rfl) ?_
  refine lv_aload_n hx hb dX4_init_4 rfl (lv_at hl 0 rfl) ?_
  refine lv_iconst (v := (0 : Int32)) hx hb dX4_init_5 (by decide) ?_
  refine g_put hx hb hts hown hR hS lpX4_7 (Or.inl rfl) rfl rfl dX4_init_6 hf (fun G1 H locs hf hR hS => ?_)
  refine lv_aload_n hx hb dX4_init_9 rfl (lv_at hl 0 rfl) ?_
  refine lv_iconst (v := (0 : Int32)) hx hb dX4_init_10 (by decide) ?_
  refine g_put hx hb hts hown hR hS lpX4_13 (Or.inl rfl) rfl rfl dX4_init_11 hf (fun G2 H locs hf hR hS => ?_)
  refine W.widen (k := 0) (n := 0) (Nat.le_of_ble_eq_true rfl) (Nat.le_of_ble_eq_true rfl) ?_
  have hf := Option.some.inj hf
  subst hf
  exact g_vret hx hb hr hlocks hR hS dX4_init_14 rfl
theorem oX6_init {v : Nat → Nat} {G : gH} {a0 : Nat} {a1 : Nat} {r : gH} (h : fX6_init v G a0 a1 = some r) : gOb G a0 6 = some () := by
  unfold fX6_init at h
  obtain ⟨u, hu, -⟩ := gb h
  exact hu
set_option maxHeartbeats 4000000 in
set_option maxRecDepth 100000 in
theorem mX6_init (l : Launch) {B0 : Nat} {D : va_G} {v : Nat → Nat} {G : gH} {a0 : Nat} {a1 : Nat} {r : gH} (hf : fX6_init v G a0 a1 = some r) : Met l yX6_init (.code yX6_init cX6_init 2 none :: gW) ({ frames := 1, cells := 0, slots := 0, locals := 21 } : Room) (gPre B0 D v [.ref a0, .ref a1] G) (gQ B0 D v none r) (0) (0) (gA B0) := by
  refine g_met (lv := [(0, .ref a0), (1, .ref a1)]) (by decide) (Nat.le_of_ble_eq_true rfl) rfl ?_
  intro p e s m below meth c hM hR ls hl
  obtain ⟨hx, hb, hr, hml, hown, hts, hlocks, hnm⟩ := id hM
  have hS : va_S (gA B0) s.heap s.heap [] := va_S.rf
  unfold fX6_init at hf
  obtain ⟨-, -, hf⟩ := gb hf
  refine lv_aload_n hx hb dX6_init_0 rfl (lv_at hl 0 rfl) ?_
  refine g_obj hx hb (hml.trans hl.1.symm) hown hts obX6_3 ob_i ob_c dX6_init_1 (Nat.le_of_ble_eq_true rfl) (Nat.le_of_ble_eq_true rfl) ?_
  refine lv_aload_n hx hb dX6_init_4 rfl (lv_at hl 0 rfl) ?_
  refine lv_lconst (v := (0 : Int64)) hx hb dX6_init_5 (by decide) ?_
  refine g_put hx hb hts hown hR hS lpX6_9 (Or.inl rfl) rfl rfl dX6_init_6 hf (fun G1 H locs hf hR hS => ?_)
  refine lv_aload_n hx hb dX6_init_9 rfl (lv_at hl 0 rfl) ?_
  refine lv_lconst (v := (0 : Int64)) hx hb dX6_init_10 (by decide) ?_
  refine g_put hx hb hts hown hR hS lpX6_15 (Or.inl rfl) rfl rfl dX6_init_11 hf (fun G2 H locs hf hR hS => ?_)
  refine lv_aload_n hx hb dX6_init_14 rfl (lv_at hl 0 rfl) ?_
  refine lv_lconst (v := (0 : Int64)) hx hb dX6_init_15 (by decide) ?_
  refine g_put hx hb hts hown hR hS lpX6_18 (Or.inl rfl) rfl rfl dX6_init_16 hf (fun G3 H locs hf hR hS => ?_)
  refine lv_aload_n hx hb dX6_init_19 rfl (lv_at hl 0 rfl) ?_
  refine lv_lconst (v := (0 : Int64)) hx hb dX6_init_20 (by decide) ?_
  refine g_put hx hb hts hown hR hS lpX6_21 (Or.inl rfl) rfl rfl dX6_init_21 hf (fun G4 H locs hf hR hS => ?_)
  refine lv_aload_n hx hb dX6_init_24 rfl (lv_at hl 0 rfl) ?_
  refine lv_lconst (v := (0 : Int64)) hx hb dX6_init_25 (by decide) ?_
  refine g_put hx hb hts hown hR hS lpX6_24 (Or.inl rfl) rfl rfl dX6_init_26 hf (fun G5 H locs hf hR hS => ?_)
  refine lv_aload_n hx hb dX6_init_29 rfl (lv_at hl 0 rfl) ?_
  refine lv_lconst (v := (0 : Int64)) hx hb dX6_init_30 (by decide) ?_
  refine g_put hx hb hts hown hR hS lpX6_27 (Or.inl rfl) rfl rfl dX6_init_31 hf (fun G6 H locs hf hR hS => ?_)
  refine lv_aload_n hx hb dX6_init_34 rfl (lv_at hl 0 rfl) ?_
  refine lv_aload_n hx hb dX6_init_35 rfl (lv_at hl 1 rfl) ?_
  refine g_put hx hb hts hown hR hS lpX6_30 (Or.inr hnm) rfl rfl dX6_init_36 hf (fun G7 H locs hf hR hS => ?_)
  refine W.widen (k := 0) (n := 0) (Nat.le_of_ble_eq_true rfl) (Nat.le_of_ble_eq_true rfl) ?_
  have hf := Option.some.inj hf
  subst hf
  exact g_vret hx hb hr hlocks hR hS dX6_init_39 rfl
theorem oX8_init {v : Nat → Nat} {G : gH} {a0 : Nat} {a1 : Nat} {a2 : Nat} {r : gH} (h : fX8_init v G a0 a1 a2 = some r) : gOb G a0 8 = some () := by
  unfold fX8_init at h
  obtain ⟨u, hu, -⟩ := gb h
  exact hu
set_option maxHeartbeats 4000000 in
set_option maxRecDepth 100000 in
theorem mX8_init (l : Launch) {B0 : Nat} {D : va_G} {v : Nat → Nat} {G : gH} {a0 : Nat} {a1 : Nat} {a2 : Nat} {r : gH} (hf : fX8_init v G a0 a1 a2 = some r) : Met l yX8_init (.code yX8_init cX8_init 3 none :: gW) ({ frames := 1, cells := 0, slots := 0, locals := 21 } : Room) (gPre B0 D v [.ref a0, .ref a1, .ref a2] G) (gQ B0 D v none r) (0) (0) (gA B0) := by
  refine g_met (lv := [(0, .ref a0), (1, .ref a1), (2, .ref a2)]) (by decide) (Nat.le_of_ble_eq_true rfl) rfl ?_
  intro p e s m below meth c hM hR ls hl
  obtain ⟨hx, hb, hr, hml, hown, hts, hlocks, hnm⟩ := id hM
  have hS : va_S (gA B0) s.heap s.heap [] := va_S.rf
  unfold fX8_init at hf
  obtain ⟨-, -, hf⟩ := gb hf
  refine lv_aload_n hx hb dX8_init_0 rfl (lv_at hl 0 rfl) ?_
  refine g_obj hx hb (hml.trans hl.1.symm) hown hts obX8_3 ob_i ob_c dX8_init_1 (Nat.le_of_ble_eq_true rfl) (Nat.le_of_ble_eq_true rfl) ?_
  refine lv_aload_n hx hb dX8_init_4 rfl (lv_at hl 0 rfl) ?_
  refine lv_iconst (v := (0 : Int32)) hx hb dX8_init_5 (by decide) ?_
  refine g_put hx hb hts hown hR hS lpX8_9 (Or.inl rfl) rfl rfl dX8_init_6 hf (fun G1 H locs hf hR hS => ?_)
  refine lv_aload_n hx hb dX8_init_9 rfl (lv_at hl 0 rfl) ?_
  refine lv_iconst (v := (0 : Int32)) hx hb dX8_init_10 (by decide) ?_
  refine g_put hx hb hts hown hR hS lpX8_15 (Or.inl rfl) rfl rfl dX8_init_11 hf (fun G2 H locs hf hR hS => ?_)
  refine lv_aload_n hx hb dX8_init_14 rfl (lv_at hl 0 rfl) ?_
  refine lv_iconst (v := (0 : Int32)) hx hb dX8_init_15 (by decide) ?_
  refine g_put hx hb hts hown hR hS lpX8_18 (Or.inl rfl) rfl rfl dX8_init_16 hf (fun G3 H locs hf hR hS => ?_)
  refine lv_aload_n hx hb dX8_init_19 rfl (lv_at hl 0 rfl) ?_
  refine lv_aload_n hx hb dX8_init_20 rfl (lv_at hl 1 rfl) ?_
  refine g_put hx hb hts hown hR hS lpX8_21 (Or.inr hnm) rfl rfl dX8_init_21 hf (fun G4 H locs hf hR hS => ?_)
  refine lv_aload_n hx hb dX8_init_24 rfl (lv_at hl 0 rfl) ?_
  refine lv_aload_n hx hb dX8_init_25 rfl (lv_at hl 2 rfl) ?_
  refine g_put hx hb hts hown hR hS lpX8_25 (Or.inr hnm) rfl rfl dX8_init_26 hf (fun G5 H locs hf hR hS => ?_)
  refine W.widen (k := 0) (n := 0) (Nat.le_of_ble_eq_true rfl) (Nat.le_of_ble_eq_true rfl) ?_
  have hf := Option.some.inj hf
  subst hf
  exact g_vret hx hb hr hlocks hR hS dX8_init_29 rfl
theorem oX5_init {v : Nat → Nat} {G : gH} {a0 : Nat} {r : gH} (h : fX5_init v G a0 = some r) : gOb G a0 5 = some () := by
  unfold fX5_init at h
  obtain ⟨u, hu, -⟩ := gb h
  exact hu
set_option maxHeartbeats 4000000 in
set_option maxRecDepth 100000 in
theorem mX5_init (l : Launch) {B0 : Nat} {D : va_G} {v : Nat → Nat} {G : gH} {a0 : Nat} {r : gH} (hf : fX5_init v G a0 = some r) : Met l yX5_init (.code yX5_init cX5_init 1 none :: gW) ({ frames := 2, cells := 5, slots := 900, locals := 42 } : Room) (gPre B0 D v [.ref a0] G) (gQ B0 D v none r) (5) (900) (gA B0) := by
  refine g_met (lv := [(0, .ref a0)]) (by decide) (Nat.le_of_ble_eq_true rfl) rfl ?_
  intro p e s m below meth c hM hR ls hl
  obtain ⟨hx, hb, hr, hml, hown, hts, hlocks, hnm⟩ := id hM
  have hS : va_S (gA B0) s.heap s.heap [] := va_S.rf
  unfold fX5_init at hf
  obtain ⟨-, -, hf⟩ := gb hf
  refine lv_aload_n hx hb dX5_init_0 rfl (lv_at hl 0 rfl) ?_
  refine g_obj hx hb (hml.trans hl.1.symm) hown hts obX5_3 ob_i ob_c dX5_init_1 (Nat.le_of_ble_eq_true rfl) (Nat.le_of_ble_eq_true rfl) ?_
  refine lv_aload_n hx hb dX5_init_4 rfl (lv_at hl 0 rfl) ?_
  refine lv_bipush (v := (12 : Int32)) hx hb dX5_init_5 (by decide) ?_
  refine g_newaN (atype := .long) (k1 := 1) (n1 := 12) hx hb hts hR hS ac_long rfl rfl (fun C h => by cases h) (by decide) (by decide) rfl rfl ⟨⟨by decide, Nat.le_of_ble_eq_true rfl⟩, Nat.le_of_ble_eq_true rfl, Nat.le_of_ble_eq_true rfl⟩ dX5_init_7 hf (fun G1 H hf hR hS => ?_)
  refine g_put hx hb hts hown hR hS lpX5_9 (Or.inr hnm) rfl rfl dX5_init_9 hf (fun G3 H locs hf hR hS => ?_)
  refine lv_aload_n hx hb dX5_init_12 rfl (lv_at hl 0 rfl) ?_
  refine g_newN (k1 := 2) (n1 := 14) hx hb hts hown hR hS lnX5_15 rfl rfl ⟨Nat.le_of_ble_eq_true rfl, Nat.le_of_ble_eq_true rfl⟩ dX5_init_13 hf (fun G4 H hf hR hS => ?_)
  refine lv_dup hx hb dX5_init_16 rfl ?_
  refine lv_sipush (v := (400 : Int32)) hx hb dX5_init_17 (by decide) ?_
  obtain ⟨G8, h7, hf⟩ := gb hf
  refine g_callI (mc := 1) (ms := 400) (rest := [.ref G3.2.2, .ref a0]) hx hb hml hown hts hR hS kjX5_17 (mX7_init l h7) ⟨rfl, rfl, Nat.le_of_ble_eq_true rfl, Nat.le_of_ble_eq_true rfl⟩ hl.1 rfl (Nat.le_of_ble_eq_true rfl) dX5_init_20 ⟨Nat.le_of_ble_eq_true rfl, Nat.le_of_ble_eq_true rfl⟩ rfl (fun H locs _ hR hS => ?_)
  refine W.eq (g2 := F0 m 23 ls [.ref G3.2.2, .ref a0]) rfl ?_
  refine W.widen (k := 3) (n := 414) (Nat.le_refl _) (Nat.le_refl _) ?_
  refine g_put hx hb hts hown hR hS lpX5_20 (Or.inr hnm) rfl rfl dX5_init_23 hf (fun G9 H locs hf hR hS => ?_)
  refine lv_aload_n hx hb dX5_init_26 rfl (lv_at hl 0 rfl) ?_
  refine g_newN (k1 := 4) (n1 := 416) hx hb hts hown hR hS lnX5_15 rfl rfl ⟨Nat.le_of_ble_eq_true rfl, Nat.le_of_ble_eq_true rfl⟩ dX5_init_27 hf (fun G10 H hf hR hS => ?_)
  refine lv_dup hx hb dX5_init_30 rfl ?_
  refine lv_sipush (v := (400 : Int32)) hx hb dX5_init_31 (by decide) ?_
  obtain ⟨G14, h13, hf⟩ := gb hf
  refine g_callI (mc := 1) (ms := 400) (rest := [.ref G9.2.2, .ref a0]) hx hb hml hown hts hR hS kjX5_17 (mX7_init l h13) ⟨rfl, rfl, Nat.le_of_ble_eq_true rfl, Nat.le_of_ble_eq_true rfl⟩ hl.1 rfl (Nat.le_of_ble_eq_true rfl) dX5_init_34 ⟨Nat.le_of_ble_eq_true rfl, Nat.le_of_ble_eq_true rfl⟩ rfl (fun H locs _ hR hS => ?_)
  refine W.eq (g2 := F0 m 37 ls [.ref G9.2.2, .ref a0]) rfl ?_
  refine W.widen (k := 5) (n := 816) (Nat.le_refl _) (Nat.le_refl _) ?_
  refine g_put hx hb hts hown hR hS lpX5_24 (Or.inr hnm) rfl rfl dX5_init_37 hf (fun G15 H locs hf hR hS => ?_)
  refine W.widen (k := 5) (n := 900) (Nat.le_of_ble_eq_true rfl) (Nat.le_of_ble_eq_true rfl) ?_
  have hf := Option.some.inj hf
  subst hf
  exact g_vret hx hb hr hlocks hR hS dX5_init_40 rfl
set_option maxHeartbeats 4000000 in
set_option maxRecDepth 100000 in
theorem wX1_init_91 {p : Program} {l : Launch} {e : Env} {s : State} {m : MethodId} {args : Array Value} {below : List Frame} {meth : Method} {c : Code} {B0 : Nat} {D : va_G} {v : Nat → Nat} {r : gH} (hM : gM p s m args meth c cX1_init 3 RX1 "<init>" none) : ∀ (n : Nat) (G : gH) (y0 : Nat) (y2 : Int32) (kc : Nat) (nc : Nat), lX1_init_91 v n G y0 y2 kc nc = some r → ∀ (H : Heap) (locs : List Loc), gRep B0 D v G s H → va_S (gA B0) s.heap H locs → ∀ (ls : Array Slot), lv_has ls 3 [(0, .ref y0), (2, .int y2)] → W p l e ({ frames := 3, cells := 300, slots := 45000, locals := 62 } : Room) s m args below meth c H locs kc nc (MQ below (gQ B0 D v none r) args s (300) (45000) (gA B0)) (F0 m 91 ls []) := by
  obtain ⟨hx, hb, hr, hml, hown, hts, hlocks, hnm⟩ := id hM
  intro n
  induction n with
  | zero => intro G y0 y2 kc nc hf; cases hf
  | succ n ih =>
    intro G y0 y2 kc nc hf H locs hR hS ls hl
    have hK : ∀ (K : gH → Nat → Int32 → Nat → Nat → Option gH), K = lX1_init_91 v n → (∀ (G : gH) (q0 : Nat) (q2 : Int32) (kc : Nat) (nc : Nat) (H : Heap) (locs : List Loc) (ls : Array Slot), K G q0 q2 kc nc = some r → gRep B0 D v G s H → va_S (gA B0) s.heap H locs → lv_has ls 3 [(0, .ref q0), (2, .int q2)] → W p l e ({ frames := 3, cells := 300, slots := 45000, locals := 62 } : Room) s m args below meth c H locs kc nc (MQ below (gQ B0 D v none r) args s (300) (45000) (gA B0)) (F0 m 91 ls [])) := fun K hk G q0 q2 kc nc H locs ls h1 h2 h3 h4 => ih G q0 q2 kc nc (by rw [← hk]; exact h1) H locs h2 h3 ls h4
    have hf : bX1_init_91 v (lX1_init_91 v n) G y0 y2 kc nc = some r := hf
    have hK := hK _ rfl
    generalize lX1_init_91 v n = K at hf hK
    unfold bX1_init_91 at hf
    refine lv_iload_n hx hb dX1_init_91 rfl (lv_at hl 1 rfl) ?_
    refine lv_aload_n hx hb dX1_init_92 rfl (lv_at hl 0 rfl) ?_
    refine g_getR hx hb hts hown hR lkX1_11 dX1_init_93 hf (fun x1 hf => ?_)
    refine g_lenW hx hb hR dX1_init_96 hf (fun x2 hf => ?_)
    refine g_icmp_ge (tgt := 119) hx hb dX1_init_97 (by decide) hf (fun h3 hf => ?_) (fun h3 hf => ?_)
    · refine g_ck hf (fun h4 hf => ?_)
      refine W.widen (k := 300) (n := 45000) h4.1 h4.2 ?_
      have hf := Option.some.inj hf
      subst hf
      exact g_vret hx hb hr hlocks hR hS dX1_init_119 rfl
    · refine lv_aload_n hx hb dX1_init_100 rfl (lv_at hl 0 rfl) ?_
      refine g_getR hx hb hts hown hR lkX1_11 dX1_init_101 hf (fun x5 hf => ?_)
      refine lv_iload_n hx hb dX1_init_104 rfl (lv_at hl 1 rfl) ?_
      refine g_ck hf (fun h7 hf => ?_)
      refine g_newN (k1 := (kc + 1)) (n1 := (nc + 3)) hx hb hts hown hR hS lnX1_9 rfl rfl h7 dX1_init_105 hf (fun G6 H hf hR hS => ?_)
      refine lv_dup hx hb dX1_init_108 rfl ?_
      refine g_ck hf (fun h8 hf => ?_)
      obtain ⟨G10, h9, hf⟩ := gb hf
      refine g_callI (mc := 5) (ms := 900) (rest := [.ref G.2.2, .int y2, .ref x5]) hx hb hml hown hts hR hS kjX1_63 (mX5_init l h9) ⟨rfl, rfl, Nat.le_of_ble_eq_true rfl, Nat.le_of_ble_eq_true rfl⟩ hl.1 rfl (Nat.le_of_ble_eq_true rfl) dX1_init_109 h8 rfl (fun H locs _ hR hS => ?_)
      refine W.eq (g2 := F0 m 112 ls [.ref G.2.2, .int y2, .ref x5]) rfl ?_
      refine W.widen (k := ((kc + 1) + 5)) (n := ((nc + 3) + 900)) (Nat.le_refl _) (Nat.le_refl _) ?_
      obtain ⟨u13, h12, hf⟩ := gb hf
      refine g_aast hx hb hR hS ⟨_, rfl, rfl⟩ h12 dX1_init_112 hf (fun G11 H locs hf hR hS => ?_)
      refine g_iinc (k := 1) (n' := (1 : Int32)) (lv2 := [(0, .ref y0)]) hx hb dX1_init_113 hl rfl (by decide) (by decide) rfl hf (fun x14 ls hf hl => ?_)
      refine lv_goto (tgt := 91) hx hb dX1_init_116 (by decide) ?_
      exact hK G11 y0 x14 ((kc + 1) + 5) ((nc + 3) + 900) _ _ ls hf hR hS (lv_sub hl [1, 0] rfl)
theorem oX1_init {v : Nat → Nat} {G : gH} {a0 : Nat} {a1 : Nat} {r : gH} (h : fX1_init v G a0 a1 = some r) : gOb G a0 1 = some () := by
  unfold fX1_init at h
  obtain ⟨u, hu, -⟩ := gb h
  exact hu
set_option maxHeartbeats 4000000 in
set_option maxRecDepth 100000 in
theorem mX1_init (l : Launch) {B0 : Nat} {D : va_G} {v : Nat → Nat} {G : gH} {a0 : Nat} {a1 : Nat} {r : gH} (hf : fX1_init v G a0 a1 = some r) : Met l yX1_init (.code yX1_init cX1_init 3 none :: gW) ({ frames := 3, cells := 300, slots := 45000, locals := 62 } : Room) (gPre B0 D v [.ref a0, .ref a1] G) (gQ B0 D v none r) (300) (45000) (gA B0) := by
  refine g_met (lv := [(0, .ref a0), (1, .ref a1)]) (by decide) (Nat.le_of_ble_eq_true rfl) rfl ?_
  intro p e s m below meth c hM hR ls hl
  obtain ⟨hx, hb, hr, hml, hown, hts, hlocks, hnm⟩ := id hM
  have hS : va_S (gA B0) s.heap s.heap [] := va_S.rf
  unfold fX1_init at hf
  obtain ⟨-, -, hf⟩ := gb hf
  refine lv_aload_n hx hb dX1_init_0 rfl (lv_at hl 0 rfl) ?_
  refine g_obj hx hb (hml.trans hl.1.symm) hown hts obX1_3 ob_i ob_c dX1_init_1 (Nat.le_of_ble_eq_true rfl) (Nat.le_of_ble_eq_true rfl) ?_
  refine lv_aload_n hx hb dX1_init_4 rfl (lv_at hl 0 rfl) ?_
  refine lv_bipush (v := (40 : Int32)) hx hb dX1_init_5 (by decide) ?_
  refine g_newqN (k1 := 1) (n1 := 40) hx hb hts hown hR hS clX1_9 (by decide) (by decide) rfl rfl ⟨⟨by decide, Nat.le_of_ble_eq_true rfl⟩, Nat.le_of_ble_eq_true rfl, Nat.le_of_ble_eq_true rfl⟩ dX1_init_7 hf (fun G1 H hf hR hS => ?_)
  refine g_put hx hb hts hown hR hS lpX1_11 (Or.inr hnm) rfl rfl dX1_init_10 hf (fun G3 H locs hf hR hS => ?_)
  refine lv_aload_n hx hb dX1_init_13 rfl (lv_at hl 0 rfl) ?_
  refine g_newN (k1 := 2) (n1 := 48) hx hb hts hown hR hS lnX1_17 rfl rfl ⟨Nat.le_of_ble_eq_true rfl, Nat.le_of_ble_eq_true rfl⟩ dX1_init_14 hf (fun G4 H hf hR hS => ?_)
  refine lv_dup hx hb dX1_init_17 rfl ?_
  obtain ⟨G8, h7, hf⟩ := gb hf
  refine g_callI (mc := 4) (ms := 900) (rest := [.ref G3.2.2, .ref a0]) hx hb hml hown hts hR hS kjX1_19 (mX0_init l h7) ⟨rfl, rfl, Nat.le_of_ble_eq_true rfl, Nat.le_of_ble_eq_true rfl⟩ hl.1 rfl (Nat.le_of_ble_eq_true rfl) dX1_init_18 ⟨Nat.le_of_ble_eq_true rfl, Nat.le_of_ble_eq_true rfl⟩ rfl (fun H locs _ hR hS => ?_)
  refine W.eq (g2 := F0 m 21 ls [.ref G3.2.2, .ref a0]) rfl ?_
  refine W.widen (k := 6) (n := 948) (Nat.le_refl _) (Nat.le_refl _) ?_
  refine g_put hx hb hts hown hR hS lpX1_20 (Or.inr hnm) rfl rfl dX1_init_21 hf (fun G9 H locs hf hR hS => ?_)
  refine lv_aload_n hx hb dX1_init_24 rfl (lv_at hl 0 rfl) ?_
  refine g_newN (k1 := 7) (n1 := 956) hx hb hts hown hR hS lnX1_17 rfl rfl ⟨Nat.le_of_ble_eq_true rfl, Nat.le_of_ble_eq_true rfl⟩ dX1_init_25 hf (fun G10 H hf hR hS => ?_)
  refine lv_dup hx hb dX1_init_28 rfl ?_
  obtain ⟨G14, h13, hf⟩ := gb hf
  refine g_callI (mc := 4) (ms := 900) (rest := [.ref G9.2.2, .ref a0]) hx hb hml hown hts hR hS kjX1_19 (mX0_init l h13) ⟨rfl, rfl, Nat.le_of_ble_eq_true rfl, Nat.le_of_ble_eq_true rfl⟩ hl.1 rfl (Nat.le_of_ble_eq_true rfl) dX1_init_29 ⟨Nat.le_of_ble_eq_true rfl, Nat.le_of_ble_eq_true rfl⟩ rfl (fun H locs _ hR hS => ?_)
  refine W.eq (g2 := F0 m 32 ls [.ref G9.2.2, .ref a0]) rfl ?_
  refine W.widen (k := 11) (n := 1856) (Nat.le_refl _) (Nat.le_refl _) ?_
  refine g_put hx hb hts hown hR hS lpX1_24 (Or.inr hnm) rfl rfl dX1_init_32 hf (fun G15 H locs hf hR hS => ?_)
  refine lv_aload_n hx hb dX1_init_35 rfl (lv_at hl 0 rfl) ?_
  refine g_newN (k1 := 12) (n1 := 1858) hx hb hts hown hR hS lnX1_27 rfl rfl ⟨Nat.le_of_ble_eq_true rfl, Nat.le_of_ble_eq_true rfl⟩ dX1_init_36 hf (fun G16 H hf hR hS => ?_)
  refine lv_dup hx hb dX1_init_39 rfl ?_
  obtain ⟨G20, h19, hf⟩ := gb hf
  refine g_callI (mc := 0) (ms := 0) (rest := [.ref G15.2.2, .ref a0]) hx hb hml hown hts hR hS kjX1_29 (mX4_init l h19) ⟨rfl, rfl, Nat.le_of_ble_eq_true rfl, Nat.le_of_ble_eq_true rfl⟩ hl.1 rfl (Nat.le_of_ble_eq_true rfl) dX1_init_40 ⟨Nat.le_of_ble_eq_true rfl, Nat.le_of_ble_eq_true rfl⟩ rfl (fun H locs _ hR hS => ?_)
  refine W.eq (g2 := F0 m 43 ls [.ref G15.2.2, .ref a0]) rfl ?_
  refine W.widen (k := 12) (n := 1858) (Nat.le_refl _) (Nat.le_refl _) ?_
  refine g_put hx hb hts hown hR hS lpX1_30 (Or.inr hnm) rfl rfl dX1_init_43 hf (fun G21 H locs hf hR hS => ?_)
  refine lv_aload_n hx hb dX1_init_46 rfl (lv_at hl 0 rfl) ?_
  refine lv_iconst (v := (0 : Int32)) hx hb dX1_init_47 (by decide) ?_
  refine g_put hx hb hts hown hR hS lpX1_34 (Or.inl rfl) rfl rfl dX1_init_48 hf (fun G22 H locs hf hR hS => ?_)
  refine lv_aload_n hx hb dX1_init_51 rfl (lv_at hl 0 rfl) ?_
  refine lv_iconst (v := (0 : Int32)) hx hb dX1_init_52 (by decide) ?_
  refine g_put hx hb hts hown hR hS lpX1_38 (Or.inl rfl) rfl rfl dX1_init_53 hf (fun G23 H locs hf hR hS => ?_)
  refine lv_aload_n hx hb dX1_init_56 rfl (lv_at hl 0 rfl) ?_
  refine lv_aload_n hx hb dX1_init_57 rfl (lv_at hl 1 rfl) ?_
  refine g_put hx hb hts hown hR hS lpX1_41 (Or.inr hnm) rfl rfl dX1_init_58 hf (fun G24 H locs hf hR hS => ?_)
  refine lv_aload_n hx hb dX1_init_61 rfl (lv_at hl 0 rfl) ?_
  refine g_newN (k1 := 13) (n1 := 1865) hx hb hts hown hR hS lnX1_45 rfl rfl ⟨Nat.le_of_ble_eq_true rfl, Nat.le_of_ble_eq_true rfl⟩ dX1_init_62 hf (fun G25 H hf hR hS => ?_)
  refine lv_dup hx hb dX1_init_65 rfl ?_
  refine lv_aload_n hx hb dX1_init_66 rfl (lv_at hl 1 rfl) ?_
  obtain ⟨G29, h28, hf⟩ := gb hf
  refine g_callI (mc := 0) (ms := 0) (rest := [.ref G24.2.2, .ref a0]) hx hb hml hown hts hR hS kjX1_47 (mX6_init l h28) ⟨rfl, rfl, Nat.le_of_ble_eq_true rfl, Nat.le_of_ble_eq_true rfl⟩ hl.1 rfl (Nat.le_of_ble_eq_true rfl) dX1_init_67 ⟨Nat.le_of_ble_eq_true rfl, Nat.le_of_ble_eq_true rfl⟩ rfl (fun H locs _ hR hS => ?_)
  refine W.eq (g2 := F0 m 70 ls [.ref G24.2.2, .ref a0]) rfl ?_
  refine W.widen (k := 13) (n := 1865) (Nat.le_refl _) (Nat.le_refl _) ?_
  refine g_put hx hb hts hown hR hS lpX1_50 (Or.inr hnm) rfl rfl dX1_init_70 hf (fun G30 H locs hf hR hS => ?_)
  refine lv_aload_n hx hb dX1_init_73 rfl (lv_at hl 0 rfl) ?_
  refine g_newN (k1 := 14) (n1 := 1870) hx hb hts hown hR hS lnX1_54 rfl rfl ⟨Nat.le_of_ble_eq_true rfl, Nat.le_of_ble_eq_true rfl⟩ dX1_init_74 hf (fun G31 H hf hR hS => ?_)
  refine lv_dup hx hb dX1_init_77 rfl ?_
  refine lv_aload_n hx hb dX1_init_78 rfl (lv_at hl 1 rfl) ?_
  refine lv_aload_n hx hb dX1_init_79 rfl (lv_at hl 0 rfl) ?_
  refine g_getR hx hb hts hown hR lkX1_30 dX1_init_80 hf (fun x33 hf => ?_)
  obtain ⟨G36, h35, hf⟩ := gb hf
  refine g_callI (mc := 0) (ms := 0) (rest := [.ref G30.2.2, .ref a0]) hx hb hml hown hts hR hS kjX1_56 (mX8_init l h35) ⟨rfl, rfl, Nat.le_of_ble_eq_true rfl, Nat.le_of_ble_eq_true rfl⟩ hl.1 rfl (Nat.le_of_ble_eq_true rfl) dX1_init_83 ⟨Nat.le_of_ble_eq_true rfl, Nat.le_of_ble_eq_true rfl⟩ rfl (fun H locs _ hR hS => ?_)
  refine W.eq (g2 := F0 m 86 ls [.ref G30.2.2, .ref a0]) rfl ?_
  refine W.widen (k := 14) (n := 1870) (Nat.le_refl _) (Nat.le_refl _) ?_
  refine g_put hx hb hts hown hR hS lpX1_59 (Or.inr hnm) rfl rfl dX1_init_86 hf (fun G37 H locs hf hR hS => ?_)
  refine lv_iconst (v := (0 : Int32)) hx hb dX1_init_89 (by decide) ?_
  refine lv_istore_n (lv' := [(2, .int (0 : Int32)), (0, .ref a0), (1, .ref a1)]) hx hb dX1_init_90 rfl hl (by decide) rfl (fun ls hl => ?_)
  exact wX1_init_91 hM gFu G37 a0 (0 : Int32) (14) (1870) hf _ _ hR hS ls (lv_sub hl [1, 0] rfl)
theorem oX2_init {v : Nat → Nat} {G : gH} {a0 : Nat} {a1 : Nat} {r : gH} (h : fX2_init v G a0 a1 = some r) : gOb G a0 2 = some () := by
  unfold fX2_init at h
  obtain ⟨u, hu, -⟩ := gb h
  exact hu
set_option maxHeartbeats 4000000 in
set_option maxRecDepth 100000 in
theorem mX2_init (l : Launch) {B0 : Nat} {D : va_G} {v : Nat → Nat} {G : gH} {a0 : Nat} {a1 : Nat} {r : gH} (hf : fX2_init v G a0 a1 = some r) : Met l yX2_init (.code yX2_init cX2_init 2 none :: gW) ({ frames := 2, cells := 4, slots := 1100, locals := 42 } : Room) (gPre B0 D v [.ref a0, .ref a1] G) (gQ B0 D v none r) (4) (1100) (gA B0) := by
  refine g_met (lv := [(0, .ref a0), (1, .ref a1)]) (by decide) (Nat.le_of_ble_eq_true rfl) rfl ?_
  intro p e s m below meth c hM hR ls hl
  obtain ⟨hx, hb, hr, hml, hown, hts, hlocks, hnm⟩ := id hM
  have hS : va_S (gA B0) s.heap s.heap [] := va_S.rf
  unfold fX2_init at hf
  obtain ⟨-, -, hf⟩ := gb hf
  refine lv_aload_n hx hb dX2_init_0 rfl (lv_at hl 0 rfl) ?_
  refine g_obj hx hb (hml.trans hl.1.symm) hown hts obX2_3 ob_i ob_c dX2_init_1 (Nat.le_of_ble_eq_true rfl) (Nat.le_of_ble_eq_true rfl) ?_
  refine lv_aload_n hx hb dX2_init_4 rfl (lv_at hl 0 rfl) ?_
  refine g_newN (k1 := 1) (n1 := 2) hx hb hts hown hR hS lnX2_9 rfl rfl ⟨Nat.le_of_ble_eq_true rfl, Nat.le_of_ble_eq_true rfl⟩ dX2_init_5 hf (fun G1 H hf hR hS => ?_)
  refine lv_dup hx hb dX2_init_8 rfl ?_
  refine lv_sipush (v := (1024 : Int32)) hx hb dX2_init_9 (by decide) ?_
  obtain ⟨G5, h4, hf⟩ := gb hf
  refine g_callI (mc := 1) (ms := 1024) (rest := [.ref G.2.2, .ref a0]) hx hb hml hown hts hR hS kjX2_11 (mX7_init l h4) ⟨rfl, rfl, Nat.le_of_ble_eq_true rfl, Nat.le_of_ble_eq_true rfl⟩ hl.1 rfl (Nat.le_of_ble_eq_true rfl) dX2_init_12 ⟨Nat.le_of_ble_eq_true rfl, Nat.le_of_ble_eq_true rfl⟩ rfl (fun H locs _ hR hS => ?_)
  refine W.eq (g2 := F0 m 15 ls [.ref G.2.2, .ref a0]) rfl ?_
  refine W.widen (k := 2) (n := 1026) (Nat.le_refl _) (Nat.le_refl _) ?_
  refine g_put hx hb hts hown hR hS lpX2_14 (Or.inr hnm) rfl rfl dX2_init_15 hf (fun G6 H locs hf hR hS => ?_)
  refine lv_aload_n hx hb dX2_init_18 rfl (lv_at hl 0 rfl) ?_
  refine g_newN (k1 := 3) (n1 := 1028) hx hb hts hown hR hS lnX2_9 rfl rfl ⟨Nat.le_of_ble_eq_true rfl, Nat.le_of_ble_eq_true rfl⟩ dX2_init_19 hf (fun G7 H hf hR hS => ?_)
  refine lv_dup hx hb dX2_init_22 rfl ?_
  refine lv_bipush (v := (40 : Int32)) hx hb dX2_init_23 (by decide) ?_
  obtain ⟨G11, h10, hf⟩ := gb hf
  refine g_callI (mc := 1) (ms := 40) (rest := [.ref G6.2.2, .ref a0]) hx hb hml hown hts hR hS kjX2_11 (mX7_init l h10) ⟨rfl, rfl, Nat.le_of_ble_eq_true rfl, Nat.le_of_ble_eq_true rfl⟩ hl.1 rfl (Nat.le_of_ble_eq_true rfl) dX2_init_25 ⟨Nat.le_of_ble_eq_true rfl, Nat.le_of_ble_eq_true rfl⟩ rfl (fun H locs _ hR hS => ?_)
  refine W.eq (g2 := F0 m 28 ls [.ref G6.2.2, .ref a0]) rfl ?_
  refine W.widen (k := 4) (n := 1068) (Nat.le_refl _) (Nat.le_refl _) ?_
  refine g_put hx hb hts hown hR hS lpX2_20 (Or.inr hnm) rfl rfl dX2_init_28 hf (fun G12 H locs hf hR hS => ?_)
  refine lv_aload_n hx hb dX2_init_31 rfl (lv_at hl 0 rfl) ?_
  refine lv_aload_n hx hb dX2_init_32 rfl (lv_at hl 1 rfl) ?_
  refine g_put hx hb hts hown hR hS lpX2_23 (Or.inr hnm) rfl rfl dX2_init_33 hf (fun G13 H locs hf hR hS => ?_)
  refine W.widen (k := 4) (n := 1100) (Nat.le_of_ble_eq_true rfl) (Nat.le_of_ble_eq_true rfl) ?_
  have hf := Option.some.inj hf
  subst hf
  exact g_vret hx hb hr hlocks hR hS dX2_init_36 rfl
theorem oX3_init {v : Nat → Nat} {G : gH} {a0 : Nat} {r : gH} (h : fX3_init v G a0 = some r) : gOb G a0 3 = some () := by
  unfold fX3_init at h
  obtain ⟨u, hu, -⟩ := gb h
  exact hu
set_option maxHeartbeats 4000000 in
set_option maxRecDepth 100000 in
theorem mX3_init (l : Launch) {B0 : Nat} {D : va_G} {v : Nat → Nat} {G : gH} {a0 : Nat} {r : gH} (hf : fX3_init v G a0 = some r) : Met l yX3_init (.code yX3_init cX3_init 1 none :: gW) ({ frames := 2, cells := 5, slots := 900, locals := 42 } : Room) (gPre B0 D v [.ref a0] G) (gQ B0 D v none r) (5) (900) (gA B0) := by
  refine g_met (lv := [(0, .ref a0)]) (by decide) (Nat.le_of_ble_eq_true rfl) rfl ?_
  intro p e s m below meth c hM hR ls hl
  obtain ⟨hx, hb, hr, hml, hown, hts, hlocks, hnm⟩ := id hM
  have hS : va_S (gA B0) s.heap s.heap [] := va_S.rf
  unfold fX3_init at hf
  obtain ⟨-, -, hf⟩ := gb hf
  refine lv_aload_n hx hb dX3_init_0 rfl (lv_at hl 0 rfl) ?_
  refine g_obj hx hb (hml.trans hl.1.symm) hown hts obX3_3 ob_i ob_c dX3_init_1 (Nat.le_of_ble_eq_true rfl) (Nat.le_of_ble_eq_true rfl) ?_
  refine lv_aload_n hx hb dX3_init_4 rfl (lv_at hl 0 rfl) ?_
  refine g_newN (k1 := 1) (n1 := 2) hx hb hts hown hR hS lnX3_9 rfl rfl ⟨Nat.le_of_ble_eq_true rfl, Nat.le_of_ble_eq_true rfl⟩ dX3_init_5 hf (fun G1 H hf hR hS => ?_)
  refine lv_dup hx hb dX3_init_8 rfl ?_
  refine lv_sipush (v := (400 : Int32)) hx hb dX3_init_9 (by decide) ?_
  obtain ⟨G5, h4, hf⟩ := gb hf
  refine g_callI (mc := 1) (ms := 400) (rest := [.ref G.2.2, .ref a0]) hx hb hml hown hts hR hS kjX3_11 (mX7_init l h4) ⟨rfl, rfl, Nat.le_of_ble_eq_true rfl, Nat.le_of_ble_eq_true rfl⟩ hl.1 rfl (Nat.le_of_ble_eq_true rfl) dX3_init_12 ⟨Nat.le_of_ble_eq_true rfl, Nat.le_of_ble_eq_true rfl⟩ rfl (fun H locs _ hR hS => ?_)
  refine W.eq (g2 := F0 m 15 ls [.ref G.2.2, .ref a0]) rfl ?_
  refine W.widen (k := 2) (n := 402) (Nat.le_refl _) (Nat.le_refl _) ?_
  refine g_put hx hb hts hown hR hS lpX3_14 (Or.inr hnm) rfl rfl dX3_init_15 hf (fun G6 H locs hf hR hS => ?_)
  refine lv_aload_n hx hb dX3_init_18 rfl (lv_at hl 0 rfl) ?_
  refine g_newN (k1 := 3) (n1 := 404) hx hb hts hown hR hS lnX3_9 rfl rfl ⟨Nat.le_of_ble_eq_true rfl, Nat.le_of_ble_eq_true rfl⟩ dX3_init_19 hf (fun G7 H hf hR hS => ?_)
  refine lv_dup hx hb dX3_init_22 rfl ?_
  refine lv_sipush (v := (400 : Int32)) hx hb dX3_init_23 (by decide) ?_
  obtain ⟨G11, h10, hf⟩ := gb hf
  refine g_callI (mc := 1) (ms := 400) (rest := [.ref G6.2.2, .ref a0]) hx hb hml hown hts hR hS kjX3_11 (mX7_init l h10) ⟨rfl, rfl, Nat.le_of_ble_eq_true rfl, Nat.le_of_ble_eq_true rfl⟩ hl.1 rfl (Nat.le_of_ble_eq_true rfl) dX3_init_26 ⟨Nat.le_of_ble_eq_true rfl, Nat.le_of_ble_eq_true rfl⟩ rfl (fun H locs _ hR hS => ?_)
  refine W.eq (g2 := F0 m 29 ls [.ref G6.2.2, .ref a0]) rfl ?_
  refine W.widen (k := 4) (n := 804) (Nat.le_refl _) (Nat.le_refl _) ?_
  refine g_put hx hb hts hown hR hS lpX3_20 (Or.inr hnm) rfl rfl dX3_init_29 hf (fun G12 H locs hf hR hS => ?_)
  refine lv_aload_n hx hb dX3_init_32 rfl (lv_at hl 0 rfl) ?_
  refine lv_iconst (v := (5 : Int32)) hx hb dX3_init_33 (by decide) ?_
  refine g_newaN (atype := .long) (k1 := 5) (n1 := 809) hx hb hts hR hS ac_long rfl rfl (fun C h => by cases h) (by decide) (by decide) rfl rfl ⟨⟨by decide, Nat.le_of_ble_eq_true rfl⟩, Nat.le_of_ble_eq_true rfl, Nat.le_of_ble_eq_true rfl⟩ dX3_init_34 hf (fun G13 H hf hR hS => ?_)
  refine lv_dup hx hb dX3_init_36 rfl ?_
  refine lv_iconst (v := (0 : Int32)) hx hb dX3_init_37 (by decide) ?_
  refine lv_ldc2 (v := (420 : Int64)) hx hb hown (hts _ kcX3_23) dX3_init_38 ?_
  refine g_last hx hb hR hS dX3_init_41 hf (fun G15 H locs hf hR hS => ?_)
  refine lv_dup hx hb dX3_init_42 rfl ?_
  refine lv_iconst (v := (1 : Int32)) hx hb dX3_init_43 (by decide) ?_
  refine lv_lconst (v := (0 : Int64)) hx hb dX3_init_44 (by decide) ?_
  refine g_last hx hb hR hS dX3_init_45 hf (fun G16 H locs hf hR hS => ?_)
  refine lv_dup hx hb dX3_init_46 rfl ?_
  refine lv_iconst (v := (2 : Int32)) hx hb dX3_init_47 (by decide) ?_
  refine lv_lconst (v := (0 : Int64)) hx hb dX3_init_48 (by decide) ?_
  refine g_last hx hb hR hS dX3_init_49 hf (fun G17 H locs hf hR hS => ?_)
  refine lv_dup hx hb dX3_init_50 rfl ?_
  refine lv_iconst (v := (3 : Int32)) hx hb dX3_init_51 (by decide) ?_
  refine lv_lconst (v := (0 : Int64)) hx hb dX3_init_52 (by decide) ?_
  refine g_last hx hb hR hS dX3_init_53 hf (fun G18 H locs hf hR hS => ?_)
  refine lv_dup hx hb dX3_init_54 rfl ?_
  refine lv_iconst (v := (4 : Int32)) hx hb dX3_init_55 (by decide) ?_
  refine lv_lconst (v := (0 : Int64)) hx hb dX3_init_56 (by decide) ?_
  refine g_last hx hb hR hS dX3_init_57 hf (fun G19 H locs hf hR hS => ?_)
  refine g_put hx hb hts hown hR hS lpX3_25 (Or.inr hnm) rfl rfl dX3_init_58 hf (fun G20 H locs hf hR hS => ?_)
  refine lv_aload_n hx hb dX3_init_61 rfl (lv_at hl 0 rfl) ?_
  refine lv_bipush (v := (48 : Int32)) hx hb dX3_init_62 (by decide) ?_
  refine g_put hx hb hts hown hR hS lpX3_29 (Or.inl rfl) rfl rfl dX3_init_64 hf (fun G21 H locs hf hR hS => ?_)
  refine lv_aload_n hx hb dX3_init_67 rfl (lv_at hl 0 rfl) ?_
  refine lv_iconst (v := (0 : Int32)) hx hb dX3_init_68 (by decide) ?_
  refine g_put hx hb hts hown hR hS lpX3_33 (Or.inl rfl) rfl rfl dX3_init_69 hf (fun G22 H locs hf hR hS => ?_)
  refine lv_aload_n hx hb dX3_init_72 rfl (lv_at hl 0 rfl) ?_
  refine lv_iconst (v := (0 : Int32)) hx hb dX3_init_73 (by decide) ?_
  refine g_put hx hb hts hown hR hS lpX3_36 (Or.inl rfl) rfl rfl dX3_init_74 hf (fun G23 H locs hf hR hS => ?_)
  refine W.widen (k := 5) (n := 900) (Nat.le_of_ble_eq_true rfl) (Nat.le_of_ble_eq_true rfl) ?_
  have hf := Option.some.inj hf
  subst hf
  exact g_vret hx hb hr hlocks hR hS dX3_init_77 rfl
set_option maxHeartbeats 4000000 in
set_option maxRecDepth 100000 in
theorem wX10_init_77 {p : Program} {l : Launch} {e : Env} {s : State} {m : MethodId} {args : Array Value} {below : List Frame} {meth : Method} {c : Code} {B0 : Nat} {D : va_G} {v : Nat → Nat} {r : gH} (hM : gM p s m args meth c cX10_init 2 RX10 "<init>" none) : ∀ (n : Nat) (G : gH) (y0 : Nat) (y1 : Int32) (kc : Nat) (nc : Nat), lX10_init_77 v n G y0 y1 kc nc = some r → ∀ (H : Heap) (locs : List Loc), gRep B0 D v G s H → va_S (gA B0) s.heap H locs → ∀ (ls : Array Slot), lv_has ls 2 [(0, .ref y0), (1, .int y1)] → W p l e ({ frames := 4, cells := 400, slots := 100000, locals := 84 } : Room) s m args below meth c H locs kc nc (MQ below (gQ B0 D v none r) args s (400) (100000) (gA B0)) (F0 m 77 ls []) := by
  obtain ⟨hx, hb, hr, hml, hown, hts, hlocks, hnm⟩ := id hM
  intro n
  induction n with
  | zero => intro G y0 y1 kc nc hf; cases hf
  | succ n ih =>
    intro G y0 y1 kc nc hf H locs hR hS ls hl
    have hK : ∀ (K : gH → Nat → Int32 → Nat → Nat → Option gH), K = lX10_init_77 v n → (∀ (G : gH) (q0 : Nat) (q1 : Int32) (kc : Nat) (nc : Nat) (H : Heap) (locs : List Loc) (ls : Array Slot), K G q0 q1 kc nc = some r → gRep B0 D v G s H → va_S (gA B0) s.heap H locs → lv_has ls 2 [(0, .ref q0), (1, .int q1)] → W p l e ({ frames := 4, cells := 400, slots := 100000, locals := 84 } : Room) s m args below meth c H locs kc nc (MQ below (gQ B0 D v none r) args s (400) (100000) (gA B0)) (F0 m 77 ls [])) := fun K hk G q0 q1 kc nc H locs ls h1 h2 h3 h4 => ih G q0 q1 kc nc (by rw [← hk]; exact h1) H locs h2 h3 ls h4
    have hf : bX10_init_77 v (lX10_init_77 v n) G y0 y1 kc nc = some r := hf
    have hK := hK _ rfl
    generalize lX10_init_77 v n = K at hf hK
    unfold bX10_init_77 at hf
    refine lv_iload_n hx hb dX10_init_77 rfl (lv_at hl 1 rfl) ?_
    refine lv_aload_n hx hb dX10_init_78 rfl (lv_at hl 0 rfl) ?_
    refine g_getR hx hb hts hown hR lkX10_24 dX10_init_79 hf (fun x1 hf => ?_)
    refine g_lenW hx hb hR dX10_init_82 hf (fun x2 hf => ?_)
    refine g_icmp_ge (tgt := 105) hx hb dX10_init_83 (by decide) hf (fun h3 hf => ?_) (fun h3 hf => ?_)
    · refine g_ck hf (fun h4 hf => ?_)
      refine W.widen (k := 400) (n := 100000) h4.1 h4.2 ?_
      have hf := Option.some.inj hf
      subst hf
      exact g_vret hx hb hr hlocks hR hS dX10_init_105 rfl
    · refine lv_aload_n hx hb dX10_init_86 rfl (lv_at hl 0 rfl) ?_
      refine g_getR hx hb hts hown hR lkX10_24 dX10_init_87 hf (fun x5 hf => ?_)
      refine lv_iload_n hx hb dX10_init_90 rfl (lv_at hl 1 rfl) ?_
      refine g_ck hf (fun h7 hf => ?_)
      refine g_newN (k1 := (kc + 1)) (n1 := (nc + 6)) hx hb hts hown hR hS lnX10_22 rfl rfl h7 dX10_init_91 hf (fun G6 H hf hR hS => ?_)
      refine lv_dup hx hb dX10_init_94 rfl ?_
      refine g_ck hf (fun h8 hf => ?_)
      obtain ⟨G10, h9, hf⟩ := gb hf
      refine g_callI (mc := 5) (ms := 900) (rest := [.ref G.2.2, .int y1, .ref x5]) hx hb hml hown hts hR hS kjX10_48 (mX3_init l h9) ⟨rfl, rfl, Nat.le_of_ble_eq_true rfl, Nat.le_of_ble_eq_true rfl⟩ hl.1 rfl (Nat.le_of_ble_eq_true rfl) dX10_init_95 h8 rfl (fun H locs _ hR hS => ?_)
      refine W.eq (g2 := F0 m 98 ls [.ref G.2.2, .int y1, .ref x5]) rfl ?_
      refine W.widen (k := ((kc + 1) + 5)) (n := ((nc + 6) + 900)) (Nat.le_refl _) (Nat.le_refl _) ?_
      obtain ⟨u13, h12, hf⟩ := gb hf
      refine g_aast hx hb hR hS ⟨_, rfl, rfl⟩ h12 dX10_init_98 hf (fun G11 H locs hf hR hS => ?_)
      refine g_iinc (k := 1) (n' := (1 : Int32)) (lv2 := [(0, .ref y0)]) hx hb dX10_init_99 hl rfl (by decide) (by decide) rfl hf (fun x14 ls hf hl => ?_)
      refine lv_goto (tgt := 77) hx hb dX10_init_102 (by decide) ?_
      exact hK G11 y0 x14 ((kc + 1) + 5) ((nc + 6) + 900) _ _ ls hf hR hS (lv_sub hl [1, 0] rfl)
theorem oX10_init {v : Nat → Nat} {G : gH} {a0 : Nat} {r : gH} (h : fX10_init v G a0 = some r) : gOb G a0 9 = some () := by
  unfold fX10_init at h
  obtain ⟨u, hu, -⟩ := gb h
  exact hu
set_option maxHeartbeats 4000000 in
set_option maxRecDepth 100000 in
theorem mX10_init (l : Launch) {B0 : Nat} {D : va_G} {v : Nat → Nat} {G : gH} {a0 : Nat} {r : gH} (hf : fX10_init v G a0 = some r) : Met l yX10_init (.code yX10_init cX10_init 2 none :: gW) ({ frames := 4, cells := 400, slots := 100000, locals := 84 } : Room) (gPre B0 D v [.ref a0] G) (gQ B0 D v none r) (400) (100000) (gA B0) := by
  refine g_met (lv := [(0, .ref a0)]) (by decide) (Nat.le_of_ble_eq_true rfl) rfl ?_
  intro p e s m below meth c hM hR ls hl
  obtain ⟨hx, hb, hr, hml, hown, hts, hlocks, hnm⟩ := id hM
  have hS : va_S (gA B0) s.heap s.heap [] := va_S.rf
  unfold fX10_init at hf
  obtain ⟨-, -, hf⟩ := gb hf
  refine lv_aload_n hx hb dX10_init_0 rfl (lv_at hl 0 rfl) ?_
  refine g_obj hx hb (hml.trans hl.1.symm) hown hts obX10_1 ob_i ob_c dX10_init_1 (Nat.le_of_ble_eq_true rfl) (Nat.le_of_ble_eq_true rfl) ?_
  refine lv_aload_n hx hb dX10_init_4 rfl (lv_at hl 0 rfl) ?_
  refine g_newN (k1 := 1) (n1 := 2) hx hb hts hown hR hS lnX10_7 rfl rfl ⟨Nat.le_of_ble_eq_true rfl, Nat.le_of_ble_eq_true rfl⟩ dX10_init_5 hf (fun G1 H hf hR hS => ?_)
  refine lv_dup hx hb dX10_init_8 rfl ?_
  refine lv_sipush (v := (512 : Int32)) hx hb dX10_init_9 (by decide) ?_
  obtain ⟨G5, h4, hf⟩ := gb hf
  refine g_callI (mc := 1) (ms := 512) (rest := [.ref G.2.2, .ref a0]) hx hb hml hown hts hR hS kjX10_11 (mX7_init l h4) ⟨rfl, rfl, Nat.le_of_ble_eq_true rfl, Nat.le_of_ble_eq_true rfl⟩ hl.1 rfl (Nat.le_of_ble_eq_true rfl) dX10_init_12 ⟨Nat.le_of_ble_eq_true rfl, Nat.le_of_ble_eq_true rfl⟩ rfl (fun H locs _ hR hS => ?_)
  refine W.eq (g2 := F0 m 15 ls [.ref G.2.2, .ref a0]) rfl ?_
  refine W.widen (k := 2) (n := 514) (Nat.le_refl _) (Nat.le_refl _) ?_
  refine g_put hx hb hts hown hR hS lpX10_14 (Or.inr hnm) rfl rfl dX10_init_15 hf (fun G6 H locs hf hR hS => ?_)
  refine lv_aload_n hx hb dX10_init_18 rfl (lv_at hl 0 rfl) ?_
  refine g_newN (k1 := 3) (n1 := 516) hx hb hts hown hR hS lnX10_7 rfl rfl ⟨Nat.le_of_ble_eq_true rfl, Nat.le_of_ble_eq_true rfl⟩ dX10_init_19 hf (fun G7 H hf hR hS => ?_)
  refine lv_dup hx hb dX10_init_22 rfl ?_
  refine lv_ldc (v := (32768 : Int32)) hx hb hown (hts _ kcX10_18) dX10_init_23 ?_
  obtain ⟨G11, h10, hf⟩ := gb hf
  refine g_callI (mc := 1) (ms := 32768) (rest := [.ref G6.2.2, .ref a0]) hx hb hml hown hts hR hS kjX10_11 (mX7_init l h10) ⟨rfl, rfl, Nat.le_of_ble_eq_true rfl, Nat.le_of_ble_eq_true rfl⟩ hl.1 rfl (Nat.le_of_ble_eq_true rfl) dX10_init_25 ⟨Nat.le_of_ble_eq_true rfl, Nat.le_of_ble_eq_true rfl⟩ rfl (fun H locs _ hR hS => ?_)
  refine W.eq (g2 := F0 m 28 ls [.ref G6.2.2, .ref a0]) rfl ?_
  refine W.widen (k := 4) (n := 33284) (Nat.le_refl _) (Nat.le_refl _) ?_
  refine g_put hx hb hts hown hR hS lpX10_19 (Or.inr hnm) rfl rfl dX10_init_28 hf (fun G12 H locs hf hR hS => ?_)
  refine lv_aload_n hx hb dX10_init_31 rfl (lv_at hl 0 rfl) ?_
  refine lv_bipush (v := (9 : Int32)) hx hb dX10_init_32 (by decide) ?_
  refine g_newqN (k1 := 5) (n1 := 33293) hx hb hts hown hR hS clX10_22 (by decide) (by decide) rfl rfl ⟨⟨by decide, Nat.le_of_ble_eq_true rfl⟩, Nat.le_of_ble_eq_true rfl, Nat.le_of_ble_eq_true rfl⟩ dX10_init_34 hf (fun G13 H hf hR hS => ?_)
  refine g_put hx hb hts hown hR hS lpX10_24 (Or.inr hnm) rfl rfl dX10_init_37 hf (fun G15 H locs hf hR hS => ?_)
  refine lv_aload_n hx hb dX10_init_40 rfl (lv_at hl 0 rfl) ?_
  refine lv_iconst (v := (0 : Int32)) hx hb dX10_init_41 (by decide) ?_
  refine g_put hx hb hts hown hR hS lpX10_28 (Or.inl rfl) rfl rfl dX10_init_42 hf (fun G16 H locs hf hR hS => ?_)
  refine lv_aload_n hx hb dX10_init_45 rfl (lv_at hl 0 rfl) ?_
  refine g_newN (k1 := 6) (n1 := 33296) hx hb hts hown hR hS lnX10_32 rfl rfl ⟨Nat.le_of_ble_eq_true rfl, Nat.le_of_ble_eq_true rfl⟩ dX10_init_46 hf (fun G17 H hf hR hS => ?_)
  refine lv_dup hx hb dX10_init_49 rfl ?_
  refine lv_aload_n hx hb dX10_init_50 rfl (lv_at hl 0 rfl) ?_
  refine g_getR hx hb hts hown hR lkX10_19 dX10_init_51 hf (fun x19 hf => ?_)
  obtain ⟨G22, h21, hf⟩ := gb hf
  refine g_callI (mc := 4) (ms := 1100) (rest := [.ref G16.2.2, .ref a0]) hx hb hml hown hts hR hS kjX10_34 (mX2_init l h21) ⟨rfl, rfl, Nat.le_of_ble_eq_true rfl, Nat.le_of_ble_eq_true rfl⟩ hl.1 rfl (Nat.le_of_ble_eq_true rfl) dX10_init_54 ⟨Nat.le_of_ble_eq_true rfl, Nat.le_of_ble_eq_true rfl⟩ rfl (fun H locs _ hR hS => ?_)
  refine W.eq (g2 := F0 m 57 ls [.ref G16.2.2, .ref a0]) rfl ?_
  refine W.widen (k := 10) (n := 34396) (Nat.le_refl _) (Nat.le_refl _) ?_
  refine g_put hx hb hts hown hR hS lpX10_37 (Or.inr hnm) rfl rfl dX10_init_57 hf (fun G23 H locs hf hR hS => ?_)
  refine lv_aload_n hx hb dX10_init_60 rfl (lv_at hl 0 rfl) ?_
  refine g_newN (k1 := 11) (n1 := 34405) hx hb hts hown hR hS lnX10_41 rfl rfl ⟨Nat.le_of_ble_eq_true rfl, Nat.le_of_ble_eq_true rfl⟩ dX10_init_61 hf (fun G24 H hf hR hS => ?_)
  refine lv_dup hx hb dX10_init_64 rfl ?_
  refine lv_aload_n hx hb dX10_init_65 rfl (lv_at hl 0 rfl) ?_
  refine g_getR hx hb hts hown hR lkX10_19 dX10_init_66 hf (fun x26 hf => ?_)
  obtain ⟨G29, h28, hf⟩ := gb hf
  refine g_callI (mc := 300) (ms := 45000) (rest := [.ref G23.2.2, .ref a0]) hx hb hml hown hts hR hS kjX10_43 (mX1_init l h28) ⟨rfl, rfl, Nat.le_of_ble_eq_true rfl, Nat.le_of_ble_eq_true rfl⟩ hl.1 rfl (Nat.le_of_ble_eq_true rfl) dX10_init_69 ⟨Nat.le_of_ble_eq_true rfl, Nat.le_of_ble_eq_true rfl⟩ rfl (fun H locs _ hR hS => ?_)
  refine W.eq (g2 := F0 m 72 ls [.ref G23.2.2, .ref a0]) rfl ?_
  refine W.widen (k := 311) (n := 79405) (Nat.le_refl _) (Nat.le_refl _) ?_
  refine g_put hx hb hts hown hR hS lpX10_44 (Or.inr hnm) rfl rfl dX10_init_72 hf (fun G30 H locs hf hR hS => ?_)
  refine lv_iconst (v := (0 : Int32)) hx hb dX10_init_75 (by decide) ?_
  refine lv_istore_n (lv' := [(1, .int (0 : Int32)), (0, .ref a0)]) hx hb dX10_init_76 rfl hl (by decide) rfl (fun ls hl => ?_)
  exact wX10_init_77 hM gFu G30 a0 (0 : Int32) (311) (79405) hf _ _ hR hS ls (lv_sub hl [1, 0] rfl)
theorem oX11_init {v : Nat → Nat} {G : gH} {a0 : Nat} {r : gH} (h : fX11_init v G a0 = some r) : gOb G a0 10 = some () := by
  unfold fX11_init at h
  obtain ⟨u, hu, -⟩ := gb h
  exact hu
set_option maxHeartbeats 4000000 in
set_option maxRecDepth 100000 in
theorem mX11_init (l : Launch) {B0 : Nat} {D : va_G} {v : Nat → Nat} {G : gH} {a0 : Nat} {r : gH} (hf : fX11_init v G a0 = some r) : Met l yX11_init (.code yX11_init cX11_init 1 none :: gW) ({ frames := 1, cells := 30, slots := 250000, locals := 21 } : Room) (gPre B0 D v [.ref a0] G) (gQ B0 D v none r) (30) (250000) (gA B0) := by
  refine g_met (lv := [(0, .ref a0)]) (by decide) (Nat.le_of_ble_eq_true rfl) rfl ?_
  intro p e s m below meth c hM hR ls hl
  obtain ⟨hx, hb, hr, hml, hown, hts, hlocks, hnm⟩ := id hM
  have hS : va_S (gA B0) s.heap s.heap [] := va_S.rf
  unfold fX11_init at hf
  obtain ⟨-, -, hf⟩ := gb hf
  refine lv_aload_n hx hb dX11_init_0 rfl (lv_at hl 0 rfl) ?_
  refine g_obj hx hb (hml.trans hl.1.symm) hown hts obX11_11 ob_i ob_c dX11_init_1 (Nat.le_of_ble_eq_true rfl) (Nat.le_of_ble_eq_true rfl) ?_
  refine lv_aload_n hx hb dX11_init_4 rfl (lv_at hl 0 rfl) ?_
  refine lv_sipush (v := (512 : Int32)) hx hb dX11_init_5 (by decide) ?_
  refine g_newaN (atype := .int) (k1 := 1) (n1 := 512) hx hb hts hR hS ac_int rfl rfl (fun C h => by cases h) (by decide) (by decide) rfl rfl ⟨⟨by decide, Nat.le_of_ble_eq_true rfl⟩, Nat.le_of_ble_eq_true rfl, Nat.le_of_ble_eq_true rfl⟩ dX11_init_8 hf (fun G1 H hf hR hS => ?_)
  refine g_put hx hb hts hown hR hS lpX11_7 (Or.inr hnm) rfl rfl dX11_init_10 hf (fun G3 H locs hf hR hS => ?_)
  refine lv_aload_n hx hb dX11_init_13 rfl (lv_at hl 0 rfl) ?_
  refine lv_bipush (v := (9 : Int32)) hx hb dX11_init_14 (by decide) ?_
  refine g_newaN (atype := .int) (k1 := 2) (n1 := 521) hx hb hts hR hS ac_int rfl rfl (fun C h => by cases h) (by decide) (by decide) rfl rfl ⟨⟨by decide, Nat.le_of_ble_eq_true rfl⟩, Nat.le_of_ble_eq_true rfl, Nat.le_of_ble_eq_true rfl⟩ dX11_init_16 hf (fun G4 H hf hR hS => ?_)
  refine g_put hx hb hts hown hR hS lpX11_17 (Or.inr hnm) rfl rfl dX11_init_18 hf (fun G6 H locs hf hR hS => ?_)
  refine lv_aload_n hx hb dX11_init_21 rfl (lv_at hl 0 rfl) ?_
  refine lv_sipush (v := (3600 : Int32)) hx hb dX11_init_22 (by decide) ?_
  refine g_newaN (atype := .int) (k1 := 3) (n1 := 4121) hx hb hts hR hS ac_int rfl rfl (fun C h => by cases h) (by decide) (by decide) rfl rfl ⟨⟨by decide, Nat.le_of_ble_eq_true rfl⟩, Nat.le_of_ble_eq_true rfl, Nat.le_of_ble_eq_true rfl⟩ dX11_init_25 hf (fun G7 H hf hR hS => ?_)
  refine g_put hx hb hts hown hR hS lpX11_20 (Or.inr hnm) rfl rfl dX11_init_27 hf (fun G9 H locs hf hR hS => ?_)
  refine lv_aload_n hx hb dX11_init_30 rfl (lv_at hl 0 rfl) ?_
  refine lv_bipush (v := (9 : Int32)) hx hb dX11_init_31 (by decide) ?_
  refine g_newaN (atype := .int) (k1 := 4) (n1 := 4130) hx hb hts hR hS ac_int rfl rfl (fun C h => by cases h) (by decide) (by decide) rfl rfl ⟨⟨by decide, Nat.le_of_ble_eq_true rfl⟩, Nat.le_of_ble_eq_true rfl, Nat.le_of_ble_eq_true rfl⟩ dX11_init_33 hf (fun G10 H hf hR hS => ?_)
  refine g_put hx hb hts hown hR hS lpX11_23 (Or.inr hnm) rfl rfl dX11_init_35 hf (fun G12 H locs hf hR hS => ?_)
  refine lv_aload_n hx hb dX11_init_38 rfl (lv_at hl 0 rfl) ?_
  refine lv_sipush (v := (3600 : Int32)) hx hb dX11_init_39 (by decide) ?_
  refine g_newaN (atype := .int) (k1 := 5) (n1 := 7730) hx hb hts hR hS ac_int rfl rfl (fun C h => by cases h) (by decide) (by decide) rfl rfl ⟨⟨by decide, Nat.le_of_ble_eq_true rfl⟩, Nat.le_of_ble_eq_true rfl, Nat.le_of_ble_eq_true rfl⟩ dX11_init_42 hf (fun G13 H hf hR hS => ?_)
  refine g_put hx hb hts hown hR hS lpX11_26 (Or.inr hnm) rfl rfl dX11_init_44 hf (fun G15 H locs hf hR hS => ?_)
  refine lv_aload_n hx hb dX11_init_47 rfl (lv_at hl 0 rfl) ?_
  refine lv_bipush (v := (9 : Int32)) hx hb dX11_init_48 (by decide) ?_
  refine g_newaN (atype := .int) (k1 := 6) (n1 := 7739) hx hb hts hR hS ac_int rfl rfl (fun C h => by cases h) (by decide) (by decide) rfl rfl ⟨⟨by decide, Nat.le_of_ble_eq_true rfl⟩, Nat.le_of_ble_eq_true rfl, Nat.le_of_ble_eq_true rfl⟩ dX11_init_50 hf (fun G16 H hf hR hS => ?_)
  refine g_put hx hb hts hown hR hS lpX11_29 (Or.inr hnm) rfl rfl dX11_init_52 hf (fun G18 H locs hf hR hS => ?_)
  refine lv_aload_n hx hb dX11_init_55 rfl (lv_at hl 0 rfl) ?_
  refine lv_bipush (v := (45 : Int32)) hx hb dX11_init_56 (by decide) ?_
  refine g_newaN (atype := .long) (k1 := 7) (n1 := 7784) hx hb hts hR hS ac_long rfl rfl (fun C h => by cases h) (by decide) (by decide) rfl rfl ⟨⟨by decide, Nat.le_of_ble_eq_true rfl⟩, Nat.le_of_ble_eq_true rfl, Nat.le_of_ble_eq_true rfl⟩ dX11_init_58 hf (fun G19 H hf hR hS => ?_)
  refine g_put hx hb hts hown hR hS lpX11_32 (Or.inr hnm) rfl rfl dX11_init_60 hf (fun G21 H locs hf hR hS => ?_)
  refine lv_aload_n hx hb dX11_init_63 rfl (lv_at hl 0 rfl) ?_
  refine lv_bipush (v := (9 : Int32)) hx hb dX11_init_64 (by decide) ?_
  refine g_newaN (atype := .int) (k1 := 8) (n1 := 7793) hx hb hts hR hS ac_int rfl rfl (fun C h => by cases h) (by decide) (by decide) rfl rfl ⟨⟨by decide, Nat.le_of_ble_eq_true rfl⟩, Nat.le_of_ble_eq_true rfl, Nat.le_of_ble_eq_true rfl⟩ dX11_init_66 hf (fun G22 H hf hR hS => ?_)
  refine g_put hx hb hts hown hR hS lpX11_36 (Or.inr hnm) rfl rfl dX11_init_68 hf (fun G24 H locs hf hR hS => ?_)
  refine lv_aload_n hx hb dX11_init_71 rfl (lv_at hl 0 rfl) ?_
  refine lv_bipush (v := (9 : Int32)) hx hb dX11_init_72 (by decide) ?_
  refine g_newaN (atype := .int) (k1 := 9) (n1 := 7802) hx hb hts hR hS ac_int rfl rfl (fun C h => by cases h) (by decide) (by decide) rfl rfl ⟨⟨by decide, Nat.le_of_ble_eq_true rfl⟩, Nat.le_of_ble_eq_true rfl, Nat.le_of_ble_eq_true rfl⟩ dX11_init_74 hf (fun G25 H hf hR hS => ?_)
  refine g_put hx hb hts hown hR hS lpX11_39 (Or.inr hnm) rfl rfl dX11_init_76 hf (fun G27 H locs hf hR hS => ?_)
  refine lv_aload_n hx hb dX11_init_79 rfl (lv_at hl 0 rfl) ?_
  refine lv_ldc (v := (32768 : Int32)) hx hb hown (hts _ kcX11_42) dX11_init_80 ?_
  refine g_newaN (atype := .int) (k1 := 10) (n1 := 40570) hx hb hts hR hS ac_int rfl rfl (fun C h => by cases h) (by decide) (by decide) rfl rfl ⟨⟨by decide, Nat.le_of_ble_eq_true rfl⟩, Nat.le_of_ble_eq_true rfl, Nat.le_of_ble_eq_true rfl⟩ dX11_init_82 hf (fun G28 H hf hR hS => ?_)
  refine g_put hx hb hts hown hR hS lpX11_43 (Or.inr hnm) rfl rfl dX11_init_84 hf (fun G30 H locs hf hR hS => ?_)
  refine lv_aload_n hx hb dX11_init_87 rfl (lv_at hl 0 rfl) ?_
  refine lv_ldc (v := (120000 : Int32)) hx hb hown (hts _ kcX11_46) dX11_init_88 ?_
  refine g_newaN (atype := .int) (k1 := 11) (n1 := 160570) hx hb hts hR hS ac_int rfl rfl (fun C h => by cases h) (by decide) (by decide) rfl rfl ⟨⟨by decide, Nat.le_of_ble_eq_true rfl⟩, Nat.le_of_ble_eq_true rfl, Nat.le_of_ble_eq_true rfl⟩ dX11_init_90 hf (fun G31 H hf hR hS => ?_)
  refine g_put hx hb hts hown hR hS lpX11_47 (Or.inr hnm) rfl rfl dX11_init_92 hf (fun G33 H locs hf hR hS => ?_)
  refine lv_aload_n hx hb dX11_init_95 rfl (lv_at hl 0 rfl) ?_
  refine lv_sipush (v := (420 : Int32)) hx hb dX11_init_96 (by decide) ?_
  refine g_newaN (atype := .int) (k1 := 12) (n1 := 160990) hx hb hts hR hS ac_int rfl rfl (fun C h => by cases h) (by decide) (by decide) rfl rfl ⟨⟨by decide, Nat.le_of_ble_eq_true rfl⟩, Nat.le_of_ble_eq_true rfl, Nat.le_of_ble_eq_true rfl⟩ dX11_init_99 hf (fun G34 H hf hR hS => ?_)
  refine g_put hx hb hts hown hR hS lpX11_50 (Or.inr hnm) rfl rfl dX11_init_101 hf (fun G36 H locs hf hR hS => ?_)
  refine lv_aload_n hx hb dX11_init_104 rfl (lv_at hl 0 rfl) ?_
  refine lv_sipush (v := (480 : Int32)) hx hb dX11_init_105 (by decide) ?_
  refine g_newaN (atype := .long) (k1 := 13) (n1 := 161470) hx hb hts hR hS ac_long rfl rfl (fun C h => by cases h) (by decide) (by decide) rfl rfl ⟨⟨by decide, Nat.le_of_ble_eq_true rfl⟩, Nat.le_of_ble_eq_true rfl, Nat.le_of_ble_eq_true rfl⟩ dX11_init_108 hf (fun G37 H hf hR hS => ?_)
  refine g_put hx hb hts hown hR hS lpX11_53 (Or.inr hnm) rfl rfl dX11_init_110 hf (fun G39 H locs hf hR hS => ?_)
  refine lv_aload_n hx hb dX11_init_113 rfl (lv_at hl 0 rfl) ?_
  refine lv_sipush (v := (16000 : Int32)) hx hb dX11_init_114 (by decide) ?_
  refine g_newaN (atype := .int) (k1 := 14) (n1 := 177470) hx hb hts hR hS ac_int rfl rfl (fun C h => by cases h) (by decide) (by decide) rfl rfl ⟨⟨by decide, Nat.le_of_ble_eq_true rfl⟩, Nat.le_of_ble_eq_true rfl, Nat.le_of_ble_eq_true rfl⟩ dX11_init_117 hf (fun G40 H hf hR hS => ?_)
  refine g_put hx hb hts hown hR hS lpX11_56 (Or.inr hnm) rfl rfl dX11_init_119 hf (fun G42 H locs hf hR hS => ?_)
  refine lv_aload_n hx hb dX11_init_122 rfl (lv_at hl 0 rfl) ?_
  refine lv_sipush (v := (16000 : Int32)) hx hb dX11_init_123 (by decide) ?_
  refine g_newaN (atype := .int) (k1 := 15) (n1 := 193470) hx hb hts hR hS ac_int rfl rfl (fun C h => by cases h) (by decide) (by decide) rfl rfl ⟨⟨by decide, Nat.le_of_ble_eq_true rfl⟩, Nat.le_of_ble_eq_true rfl, Nat.le_of_ble_eq_true rfl⟩ dX11_init_126 hf (fun G43 H hf hR hS => ?_)
  refine g_put hx hb hts hown hR hS lpX11_59 (Or.inr hnm) rfl rfl dX11_init_128 hf (fun G45 H locs hf hR hS => ?_)
  refine lv_aload_n hx hb dX11_init_131 rfl (lv_at hl 0 rfl) ?_
  refine lv_sipush (v := (800 : Int32)) hx hb dX11_init_132 (by decide) ?_
  refine g_newaN (atype := .int) (k1 := 16) (n1 := 194270) hx hb hts hR hS ac_int rfl rfl (fun C h => by cases h) (by decide) (by decide) rfl rfl ⟨⟨by decide, Nat.le_of_ble_eq_true rfl⟩, Nat.le_of_ble_eq_true rfl, Nat.le_of_ble_eq_true rfl⟩ dX11_init_135 hf (fun G46 H hf hR hS => ?_)
  refine g_put hx hb hts hown hR hS lpX11_62 (Or.inr hnm) rfl rfl dX11_init_137 hf (fun G48 H locs hf hR hS => ?_)
  refine lv_aload_n hx hb dX11_init_140 rfl (lv_at hl 0 rfl) ?_
  refine lv_iconst (v := (2 : Int32)) hx hb dX11_init_141 (by decide) ?_
  refine g_newaN (atype := .int) (k1 := 17) (n1 := 194272) hx hb hts hR hS ac_int rfl rfl (fun C h => by cases h) (by decide) (by decide) rfl rfl ⟨⟨by decide, Nat.le_of_ble_eq_true rfl⟩, Nat.le_of_ble_eq_true rfl, Nat.le_of_ble_eq_true rfl⟩ dX11_init_142 hf (fun G49 H hf hR hS => ?_)
  refine g_put hx hb hts hown hR hS lpX11_65 (Or.inr hnm) rfl rfl dX11_init_144 hf (fun G51 H locs hf hR hS => ?_)
  refine lv_aload_n hx hb dX11_init_147 rfl (lv_at hl 0 rfl) ?_
  refine lv_sipush (v := (800 : Int32)) hx hb dX11_init_148 (by decide) ?_
  refine g_newaN (atype := .int) (k1 := 18) (n1 := 195072) hx hb hts hR hS ac_int rfl rfl (fun C h => by cases h) (by decide) (by decide) rfl rfl ⟨⟨by decide, Nat.le_of_ble_eq_true rfl⟩, Nat.le_of_ble_eq_true rfl, Nat.le_of_ble_eq_true rfl⟩ dX11_init_151 hf (fun G52 H hf hR hS => ?_)
  refine g_put hx hb hts hown hR hS lpX11_68 (Or.inr hnm) rfl rfl dX11_init_153 hf (fun G54 H locs hf hR hS => ?_)
  refine lv_aload_n hx hb dX11_init_156 rfl (lv_at hl 0 rfl) ?_
  refine lv_iconst (v := (2 : Int32)) hx hb dX11_init_157 (by decide) ?_
  refine g_newaN (atype := .int) (k1 := 19) (n1 := 195074) hx hb hts hR hS ac_int rfl rfl (fun C h => by cases h) (by decide) (by decide) rfl rfl ⟨⟨by decide, Nat.le_of_ble_eq_true rfl⟩, Nat.le_of_ble_eq_true rfl, Nat.le_of_ble_eq_true rfl⟩ dX11_init_158 hf (fun G55 H hf hR hS => ?_)
  refine g_put hx hb hts hown hR hS lpX11_71 (Or.inr hnm) rfl rfl dX11_init_160 hf (fun G57 H locs hf hR hS => ?_)
  refine lv_aload_n hx hb dX11_init_163 rfl (lv_at hl 0 rfl) ?_
  refine lv_bipush (v := (8 : Int32)) hx hb dX11_init_164 (by decide) ?_
  refine g_newaN (atype := .boolean) (k1 := 20) (n1 := 195082) hx hb hts hR hS ac_boolean rfl rfl (fun C h => by cases h) (by decide) (by decide) rfl rfl ⟨⟨by decide, Nat.le_of_ble_eq_true rfl⟩, Nat.le_of_ble_eq_true rfl, Nat.le_of_ble_eq_true rfl⟩ dX11_init_166 hf (fun G58 H hf hR hS => ?_)
  refine g_put hx hb hts hown hR hS lpX11_74 (Or.inr hnm) rfl rfl dX11_init_168 hf (fun G60 H locs hf hR hS => ?_)
  refine lv_aload_n hx hb dX11_init_171 rfl (lv_at hl 0 rfl) ?_
  refine lv_bipush (v := (10 : Int32)) hx hb dX11_init_172 (by decide) ?_
  refine g_newaN (atype := .long) (k1 := 21) (n1 := 195092) hx hb hts hR hS ac_long rfl rfl (fun C h => by cases h) (by decide) (by decide) rfl rfl ⟨⟨by decide, Nat.le_of_ble_eq_true rfl⟩, Nat.le_of_ble_eq_true rfl, Nat.le_of_ble_eq_true rfl⟩ dX11_init_174 hf (fun G61 H hf hR hS => ?_)
  refine g_put hx hb hts hown hR hS lpX11_78 (Or.inr hnm) rfl rfl dX11_init_176 hf (fun G63 H locs hf hR hS => ?_)
  refine lv_aload_n hx hb dX11_init_179 rfl (lv_at hl 0 rfl) ?_
  refine lv_iconst (v := (5 : Int32)) hx hb dX11_init_180 (by decide) ?_
  refine g_newaN (atype := .long) (k1 := 22) (n1 := 195097) hx hb hts hR hS ac_long rfl rfl (fun C h => by cases h) (by decide) (by decide) rfl rfl ⟨⟨by decide, Nat.le_of_ble_eq_true rfl⟩, Nat.le_of_ble_eq_true rfl, Nat.le_of_ble_eq_true rfl⟩ dX11_init_181 hf (fun G64 H hf hR hS => ?_)
  refine g_put hx hb hts hown hR hS lpX11_81 (Or.inr hnm) rfl rfl dX11_init_183 hf (fun G66 H locs hf hR hS => ?_)
  refine lv_aload_n hx hb dX11_init_186 rfl (lv_at hl 0 rfl) ?_
  refine g_getR hx hb hts hown hR lkX11_32 dX11_init_187 hf (fun x67 hf => ?_)
  refine lv_bipush (v := (40 : Int32)) hx hb dX11_init_190 (by decide) ?_
  refine lv_ldc2 (v := (420 : Int64)) hx hb hown (hts _ kcX11_84) dX11_init_192 ?_
  refine g_last hx hb hR hS dX11_init_195 hf (fun G68 H locs hf hR hS => ?_)
  refine W.widen (k := 30) (n := 250000) (Nat.le_of_ble_eq_true rfl) (Nat.le_of_ble_eq_true rfl) ?_
  have hf := Option.some.inj hf
  subst hf
  exact g_vret hx hb hr hlocks hR hS dX11_init_196 rfl
