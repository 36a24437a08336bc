abbrev rX1_addQuestion : Room := { frames := 0, cells := 0, slots := 0, locals := 0 }
set_option maxHeartbeats 4000000 in
set_option maxRecDepth 20000 in
theorem c_X1_addQuestion (l : Launch) (D : va_G) (cy : ClassId) (ad : Nat → Nat) (M : MS) (x1 x2 x3 x4 : Int) (Q : MS → Prop) (h : wX1_addQuestion M x1 x2 x3 x4 Q) : MetV l yX1_addQuestion (wT yX1_addQuestion cX1_addQuestion 5 none) rX1_addQuestion D cy [.ref (ad 0), .int (iI x1), .int (iI x2), .int (iI x3), .int (iI x4)] (wMu cy ad M) (fun u : MS => wMu cy ad u) (fun u => Q u) := by
  refine gI_V (by decide) (Nat.le_of_ble_eq_true rfl) ?_
  intro p e s m args below meth c A Qg F hK hA ret H locs ls hl hP hD hS
  have F : CallFix p m c cX1_addQuestion 5 s args gT RX1 := F
  have hl : lv_has ls 5 [(0, .ref (ad 0)), (1, .int (iI x1)), (2, .int (iI x2)), (3, .int (iI x3)), (4, .int (iI x4))] := hl
  refine lv_aload_n F.1 F.2.1 dX1_addQuestion_0 rfl (lv_at hl 0 rfl) ?_
  refine gv_get F hin1 hK hP 0 rfl rfl 2 (by decide) k120 rfl dX1_addQuestion_1 ?_
  refine gv_bipush F ⟨by decide, by decide⟩ dX1_addQuestion_4 ?_
  obtain ⟨g1, h⟩ := h
  refine gv_icmp_lt (tgt := 10) F g1 ⟨by decide, by decide⟩ dX1_addQuestion_6 (by decide) (fun c2 => ?_) (fun c2 => ?_)
  · have h := h.1 c2
    refine lv_aload_n F.1 F.2.1 dX1_addQuestion_10 rfl (lv_at hl 0 rfl) ?_
    refine gv_get F hin1 hK hP 0 rfl rfl 3 (by decide) k122 rfl dX1_addQuestion_11 ?_
    refine lv_aload_n F.1 F.2.1 dX1_addQuestion_14 rfl (lv_at hl 0 rfl) ?_
    refine gv_get F hin1 hK hP 0 rfl rfl 2 (by decide) k120 rfl dX1_addQuestion_15 ?_
    refine lv_iload_n F.1 F.2.1 dX1_addQuestion_18 rfl (lv_at hl 1 rfl) ?_
    obtain ⟨g3, h⟩ := h
    obtain ⟨z4, ez4⟩ : ∃ z : MS, z = st M 4 (M 0 2) x1 := ⟨_, rfl⟩
    have h := h z4 ez4
    refine gv_iast (n := 8) (g := (M 4)) (ws' := wMu cy ad z4) F hK hP hD hS 4 rfl rfl (by decide) g3 (by subst ez4; exact wMu_st 4 (by decide) 8 rfl _ _) dX1_addQuestion_19 (fun H locs hP hD hS => ?_)
    refine lv_aload_n F.1 F.2.1 dX1_addQuestion_20 rfl (lv_at hl 0 rfl) ?_
    refine gv_get F hin1 hK hP 0 rfl rfl 4 (by decide) k124 rfl dX1_addQuestion_21 ?_
    refine lv_aload_n F.1 F.2.1 dX1_addQuestion_24 rfl (lv_at hl 0 rfl) ?_
    refine gv_get F hin1 hK hP 0 rfl rfl 2 (by decide) k120 rfl dX1_addQuestion_25 ?_
    refine lv_iload_n F.1 F.2.1 dX1_addQuestion_28 rfl (lv_at hl 2 rfl) ?_
    obtain ⟨g5, h⟩ := h
    obtain ⟨z6, ez6⟩ : ∃ z : MS, z = st z4 5 (z4 0 2) x2 := ⟨_, rfl⟩
    have h := h z6 ez6
    refine gv_iast (n := 8) (g := (z4 5)) (ws' := wMu cy ad z6) F hK hP hD hS 5 rfl rfl (by decide) g5 (by subst ez6; exact wMu_st 5 (by decide) 8 rfl _ _) dX1_addQuestion_29 (fun H locs hP hD hS => ?_)
    refine lv_aload_n F.1 F.2.1 dX1_addQuestion_30 rfl (lv_at hl 0 rfl) ?_
    refine gv_get F hin1 hK hP 0 rfl rfl 5 (by decide) k126 rfl dX1_addQuestion_31 ?_
    refine lv_aload_n F.1 F.2.1 dX1_addQuestion_34 rfl (lv_at hl 0 rfl) ?_
    refine gv_get F hin1 hK hP 0 rfl rfl 2 (by decide) k120 rfl dX1_addQuestion_35 ?_
    refine lv_iload_n F.1 F.2.1 dX1_addQuestion_38 rfl (lv_at hl 3 rfl) ?_
    obtain ⟨g7, h⟩ := h
    obtain ⟨z8, ez8⟩ : ∃ z : MS, z = st z6 6 (z6 0 2) x3 := ⟨_, rfl⟩
    have h := h z8 ez8
    refine gv_iast (n := 8) (g := (z6 6)) (ws' := wMu cy ad z8) F hK hP hD hS 6 rfl rfl (by decide) g7 (by subst ez8; exact wMu_st 6 (by decide) 8 rfl _ _) dX1_addQuestion_39 (fun H locs hP hD hS => ?_)
    refine lv_aload_n F.1 F.2.1 dX1_addQuestion_40 rfl (lv_at hl 0 rfl) ?_
    refine gv_get F hin1 hK hP 0 rfl rfl 6 (by decide) k128 rfl dX1_addQuestion_41 ?_
    refine lv_aload_n F.1 F.2.1 dX1_addQuestion_44 rfl (lv_at hl 0 rfl) ?_
    refine gv_get F hin1 hK hP 0 rfl rfl 2 (by decide) k120 rfl dX1_addQuestion_45 ?_
    refine lv_iload F.1 F.2.1 dX1_addQuestion_48 (lv_at hl 4 rfl) ?_
    obtain ⟨g9, h⟩ := h
    obtain ⟨z10, ez10⟩ : ∃ z : MS, z = st z8 7 (z8 0 2) x4 := ⟨_, rfl⟩
    have h := h z10 ez10
    refine gv_iast (n := 8) (g := (z8 7)) (ws' := wMu cy ad z10) F hK hP hD hS 7 rfl rfl (by decide) g9 (by subst ez10; exact wMu_st 7 (by decide) 8 rfl _ _) dX1_addQuestion_50 (fun H locs hP hD hS => ?_)
    refine lv_aload_n F.1 F.2.1 dX1_addQuestion_51 rfl (lv_at hl 0 rfl) ?_
    refine lv_dup F.1 F.2.1 dX1_addQuestion_52 rfl ?_
    refine gv_get F hin1 hK hP 0 rfl rfl 2 (by decide) k120 rfl dX1_addQuestion_53 ?_
    refine gv_iconst F dX1_addQuestion_56 ?_
    refine gv_iadd F dX1_addQuestion_57 ?_
    obtain ⟨z11, ez11⟩ : ∃ z : MS, z = st z10 0 2 ((z10 0 2) + 1) := ⟨_, rfl⟩
    have h := h z11 ez11
    refine gv_put (ws' := wMu cy ad z11) F hin1 tyX1 tyX1_ok nmX1 hK hP hD hS 0 rfl rfl 2 (by decide) k120 rfl (ty := .int) (by decide +kernel) rfl rfl (Nat.le_of_ble_eq_true rfl) (by subst ez11; exact wMu_o2 rfl) dX1_addQuestion_58 (fun H locs hP hD hS => ?_)
    exact ret z11 H locs 61 ls h hP hD hS dX1_addQuestion_61
  · have h := h.2 c2
    exact ret M H locs 9 ls h hP hD hS dX1_addQuestion_9
abbrev rX1_addGroup : Room := { frames := 0, cells := 0, slots := 0, locals := 0 }
set_option maxHeartbeats 4000000 in
set_option maxRecDepth 20000 in
theorem c_X1_addGroup (l : Launch) (D : va_G) (cy : ClassId) (ad : Nat → Nat) (M : MS) (x1 x2 x3 : Int) (Q : MS → Prop) (h : wX1_addGroup M x1 x2 x3 Q) : MetV l yX1_addGroup (wT yX1_addGroup cX1_addGroup 4 none) rX1_addGroup D cy [.ref (ad 0), .int (iI x1), .int (iI x2), .int (iI x3)] (wMu cy ad M) (fun u : MS => wMu cy ad u) (fun u => Q u) := by
  refine gI_V (by decide) (Nat.le_of_ble_eq_true rfl) ?_
  intro p e s m args below meth c A Qg F hK hA ret H locs ls hl hP hD hS
  have F : CallFix p m c cX1_addGroup 4 s args gT RX1 := F
  have hl : lv_has ls 4 [(0, .ref (ad 0)), (1, .int (iI x1)), (2, .int (iI x2)), (3, .int (iI x3))] := hl
  refine lv_aload_n F.1 F.2.1 dX1_addGroup_0 rfl (lv_at hl 0 rfl) ?_
  refine gv_get F hin1 hK hP 0 rfl rfl 7 (by decide) k130 rfl dX1_addGroup_1 ?_
  refine gv_iconst F dX1_addGroup_4 ?_
  obtain ⟨g1, h⟩ := h
  refine gv_icmp_lt (tgt := 9) F g1 ⟨by decide, by decide⟩ dX1_addGroup_5 (by decide) (fun c2 => ?_) (fun c2 => ?_)
  · have h := h.1 c2
    refine lv_aload_n F.1 F.2.1 dX1_addGroup_9 rfl (lv_at hl 0 rfl) ?_
    refine gv_get F hin1 hK hP 0 rfl rfl 8 (by decide) k132 rfl dX1_addGroup_10 ?_
    refine lv_aload_n F.1 F.2.1 dX1_addGroup_13 rfl (lv_at hl 0 rfl) ?_
    refine gv_get F hin1 hK hP 0 rfl rfl 7 (by decide) k130 rfl dX1_addGroup_14 ?_
    refine lv_iload_n F.1 F.2.1 dX1_addGroup_17 rfl (lv_at hl 1 rfl) ?_
    obtain ⟨g3, h⟩ := h
    obtain ⟨z4, ez4⟩ : ∃ z : MS, z = st M 8 (M 0 7) x1 := ⟨_, rfl⟩
    have h := h z4 ez4
    refine gv_iast (n := 5) (g := (M 8)) (ws' := wMu cy ad z4) F hK hP hD hS 8 rfl rfl (by decide) g3 (by subst ez4; exact wMu_st 8 (by decide) 5 rfl _ _) dX1_addGroup_18 (fun H locs hP hD hS => ?_)
    refine lv_aload_n F.1 F.2.1 dX1_addGroup_19 rfl (lv_at hl 0 rfl) ?_
    refine gv_get F hin1 hK hP 0 rfl rfl 9 (by decide) k134 rfl dX1_addGroup_20 ?_
    refine lv_aload_n F.1 F.2.1 dX1_addGroup_23 rfl (lv_at hl 0 rfl) ?_
    refine gv_get F hin1 hK hP 0 rfl rfl 7 (by decide) k130 rfl dX1_addGroup_24 ?_
    refine lv_iload_n F.1 F.2.1 dX1_addGroup_27 rfl (lv_at hl 2 rfl) ?_
    obtain ⟨g5, h⟩ := h
    obtain ⟨z6, ez6⟩ : ∃ z : MS, z = st z4 9 (z4 0 7) x2 := ⟨_, rfl⟩
    have h := h z6 ez6
    refine gv_iast (n := 5) (g := (z4 9)) (ws' := wMu cy ad z6) F hK hP hD hS 9 rfl rfl (by decide) g5 (by subst ez6; exact wMu_st 9 (by decide) 5 rfl _ _) dX1_addGroup_28 (fun H locs hP hD hS => ?_)
    refine lv_aload_n F.1 F.2.1 dX1_addGroup_29 rfl (lv_at hl 0 rfl) ?_
    refine gv_get F hin1 hK hP 0 rfl rfl 10 (by decide) k136 rfl dX1_addGroup_30 ?_
    refine lv_aload_n F.1 F.2.1 dX1_addGroup_33 rfl (lv_at hl 0 rfl) ?_
    refine gv_get F hin1 hK hP 0 rfl rfl 7 (by decide) k130 rfl dX1_addGroup_34 ?_
    refine lv_iload_n F.1 F.2.1 dX1_addGroup_37 rfl (lv_at hl 3 rfl) ?_
    obtain ⟨g7, h⟩ := h
    obtain ⟨z8, ez8⟩ : ∃ z : MS, z = st z6 10 (z6 0 7) x3 := ⟨_, rfl⟩
    have h := h z8 ez8
    refine gv_iast (n := 5) (g := (z6 10)) (ws' := wMu cy ad z8) F hK hP hD hS 10 rfl rfl (by decide) g7 (by subst ez8; exact wMu_st 10 (by decide) 5 rfl _ _) dX1_addGroup_38 (fun H locs hP hD hS => ?_)
    refine lv_aload_n F.1 F.2.1 dX1_addGroup_39 rfl (lv_at hl 0 rfl) ?_
    refine lv_dup F.1 F.2.1 dX1_addGroup_40 rfl ?_
    refine gv_get F hin1 hK hP 0 rfl rfl 7 (by decide) k130 rfl dX1_addGroup_41 ?_
    refine gv_iconst F dX1_addGroup_44 ?_
    refine gv_iadd F dX1_addGroup_45 ?_
    obtain ⟨z9, ez9⟩ : ∃ z : MS, z = st z8 0 7 ((z8 0 7) + 1) := ⟨_, rfl⟩
    have h := h z9 ez9
    refine gv_put (ws' := wMu cy ad z9) F hin1 tyX1 tyX1_ok nmX1 hK hP hD hS 0 rfl rfl 7 (by decide) k130 rfl (ty := .int) (by decide +kernel) rfl rfl (Nat.le_of_ble_eq_true rfl) (by subst ez9; exact wMu_o7 rfl) dX1_addGroup_46 (fun H locs hP hD hS => ?_)
    exact ret z9 H locs 49 ls h hP hD hS dX1_addGroup_49
  · have h := h.2 c2
    exact ret M H locs 8 ls h hP hD hS dX1_addGroup_8
abbrev rX1_place : Room := { frames := 0, cells := 0, slots := 0, locals := 0 }
set_option maxHeartbeats 4000000 in
set_option maxRecDepth 20000 in
theorem c_X1_place (l : Launch) (D : va_G) (cy : ClassId) (ad : Nat → Nat) (M : MS) (x1 x2 : Int) (Q : MS → Prop) (h : wX1_place M x1 x2 Q) : MetV l yX1_place (wT yX1_place cX1_place 3 none) rX1_place D cy [.ref (ad 0), .int (iI x1), .int (iI x2)] (wMu cy ad M) (fun u : MS => wMu cy ad u) (fun u => Q u) := by
  refine gI_V (by decide) (Nat.le_of_ble_eq_true rfl) ?_
  intro p e s m args below meth c A Qg F hK hA ret H locs ls hl hP hD hS
  have F : CallFix p m c cX1_place 3 s args gT RX1 := F
  have hl : lv_has ls 3 [(0, .ref (ad 0)), (1, .int (iI x1)), (2, .int (iI x2))] := hl
  refine lv_aload_n F.1 F.2.1 dX1_place_0 rfl (lv_at hl 0 rfl) ?_
  refine gv_get F hin1 hK hP 0 rfl rfl 11 (by decide) k138 rfl dX1_place_1 ?_
  refine lv_iload_n F.1 F.2.1 dX1_place_4 rfl (lv_at hl 1 rfl) ?_
  refine lv_iload_n F.1 F.2.1 dX1_place_5 rfl (lv_at hl 2 rfl) ?_
  obtain ⟨g1, h⟩ := h
  obtain ⟨z2, ez2⟩ : ∃ z : MS, z = st M 11 x1 x2 := ⟨_, rfl⟩
  have h := h z2 ez2
  refine gv_iast (n := 5) (g := (M 11)) (ws' := wMu cy ad z2) F hK hP hD hS 11 rfl rfl (by decide) g1 (by subst ez2; exact wMu_st 11 (by decide) 5 rfl _ _) dX1_place_6 (fun H locs hP hD hS => ?_)
  refine lv_aload_n F.1 F.2.1 dX1_place_7 rfl (lv_at hl 0 rfl) ?_
  refine gv_get F hin1 hK hP 0 rfl rfl 12 (by decide) k140 rfl dX1_place_8 ?_
  refine lv_iload_n F.1 F.2.1 dX1_place_11 rfl (lv_at hl 1 rfl) ?_
  refine gv_iconst F dX1_place_12 ?_
  obtain ⟨g3, h⟩ := h
  obtain ⟨z4, ez4⟩ : ∃ z : MS, z = st z2 12 x1 0 := ⟨_, rfl⟩
  have h := h z4 ez4
  refine gv_iast (n := 5) (g := (z2 12)) (ws' := wMu cy ad z4) F hK hP hD hS 12 rfl rfl (by decide) g3 (by subst ez4; exact wMu_st 12 (by decide) 5 rfl _ _) dX1_place_13 (fun H locs hP hD hS => ?_)
  exact ret z4 H locs 14 ls h hP hD hS dX1_place_14
abbrev rX1_answerOf : Room := { frames := 0, cells := 0, slots := 0, locals := 0 }
set_option maxHeartbeats 4000000 in
set_option maxRecDepth 20000 in
theorem c_X1_answerOf (l : Launch) (D : va_G) (cy : ClassId) (ad : Nat → Nat) (M : MS) (x1 x2 : Int) (Q : Int → Prop) (h : wX1_answerOf M x1 x2 Q) : MetR l yX1_answerOf (wT yX1_answerOf cX1_answerOf 3 (some .int)) rX1_answerOf D cy [.ref (ad 0), .int (iI x1), .int (iI x2)] (wMu cy ad M) Q := by
  refine gI_R (by decide) (Nat.le_of_ble_eq_true rfl) ?_
  intro p e s m args below meth c A Qg F hK hA ret H locs ls hl hP hS
  have F : CallFix p m c cX1_answerOf 3 s args gT RX1 := F
  have hl : lv_has ls 3 [(0, .ref (ad 0)), (1, .int (iI x1)), (2, .int (iI x2))] := hl
  refine lv_aload_n F.1 F.2.1 dX1_answerOf_0 rfl (lv_at hl 0 rfl) ?_
  refine gv_get F hin1 hK hP 0 rfl rfl 13 (by decide) k142 rfl dX1_answerOf_1 ?_
  refine lv_iload_n F.1 F.2.1 dX1_answerOf_4 rfl (lv_at hl 1 rfl) ?_
  refine gv_bipush F ⟨by decide, by decide⟩ dX1_answerOf_5 ?_
  refine gv_imul F dX1_answerOf_7 ?_
  refine lv_iload_n F.1 F.2.1 dX1_answerOf_8 rfl (lv_at hl 2 rfl) ?_
  refine gv_iadd F dX1_answerOf_9 ?_
  obtain ⟨g1, h⟩ := h
  refine gv_iald (n := 40) (g := (M 13)) F hK hP 13 rfl rfl (by decide) g1 dX1_answerOf_10 ?_
  exact ret ((M 13) ((x1 * 8) + x2)) H locs 11 ls h rfl hS dX1_answerOf_11
abbrev rX1_fill : Room := { frames := 0, cells := 0, slots := 0, locals := 0 }
set_option maxHeartbeats 4000000 in
set_option maxRecDepth 20000 in
theorem c_X1_fill (l : Launch) (D : va_G) (cy : ClassId) (ad : Nat → Nat) (M : MS) (x1 x2 x3 : Int) (Q : MS → Prop) (h : wX1_fill M x1 x2 x3 Q) : MetV l yX1_fill (wT yX1_fill cX1_fill 4 none) rX1_fill D cy [.ref (ad 0), .int (iI x1), .int (iI x2), .int (iI x3)] (wMu cy ad M) (fun u : MS => wMu cy ad u) (fun u => Q u) := by
  refine gI_V (by decide) (Nat.le_of_ble_eq_true rfl) ?_
  intro p e s m args below meth c A Qg F hK hA ret H locs ls hl hP hD hS
  have F : CallFix p m c cX1_fill 4 s args gT RX1 := F
  have hl : lv_has ls 4 [(0, .ref (ad 0)), (1, .int (iI x1)), (2, .int (iI x2)), (3, .int (iI x3))] := hl
  refine lv_aload_n F.1 F.2.1 dX1_fill_0 rfl (lv_at hl 0 rfl) ?_
  refine gv_get F hin1 hK hP 0 rfl rfl 13 (by decide) k142 rfl dX1_fill_1 ?_
  refine lv_iload_n F.1 F.2.1 dX1_fill_4 rfl (lv_at hl 1 rfl) ?_
  refine gv_bipush F ⟨by decide, by decide⟩ dX1_fill_5 ?_
  refine gv_imul F dX1_fill_7 ?_
  refine lv_iload_n F.1 F.2.1 dX1_fill_8 rfl (lv_at hl 2 rfl) ?_
  refine gv_iadd F dX1_fill_9 ?_
  refine lv_iload_n F.1 F.2.1 dX1_fill_10 rfl (lv_at hl 3 rfl) ?_
  obtain ⟨g1, h⟩ := h
  obtain ⟨z2, ez2⟩ : ∃ z : MS, z = st M 13 ((x1 * 8) + x2) x3 := ⟨_, rfl⟩
  have h := h z2 ez2
  refine gv_iast (n := 40) (g := (M 13)) (ws' := wMu cy ad z2) F hK hP hD hS 13 rfl rfl (by decide) g1 (by subst ez2; exact wMu_st 13 (by decide) 40 rfl _ _) dX1_fill_11 (fun H locs hP hD hS => ?_)
  exact ret z2 H locs 12 ls h hP hD hS dX1_fill_12
abbrev rX1_fillTruth : Room := { frames := 1, cells := 0, slots := 0, locals := 23 }
set_option maxHeartbeats 4000000 in
set_option maxRecDepth 20000 in
theorem c_X1_fillTruth (l : Launch) (D : va_G) (cy : ClassId) (ad : Nat → Nat) (M : MS) (x1 : Int) (Q : MS → Prop) (h : wX1_fillTruth M x1 Q) : MetV l yX1_fillTruth (wT yX1_fillTruth cX1_fillTruth 3 none) rX1_fillTruth D cy [.ref (ad 0), .int (iI x1)] (wMu cy ad M) (fun u : MS => wMu cy ad u) (fun u => Q u) := by
  refine gI_V (by decide) (Nat.le_of_ble_eq_true rfl) ?_
  intro p e s m args below meth c A Qg F hK hA ret H locs ls hl hP hD hS
  have F : CallFix p m c cX1_fillTruth 3 s args gT RX1 := F
  have hl : lv_has ls 3 [(0, .ref (ad 0)), (1, .int (iI x1))] := hl
  have L2 : ∀ (n : Nat) (y1 : Int) (y2 : Int) (M : MS) (H : Heap) (locs : List Loc) (ls : Array Slot), wX1_fillTruth_2 Q n y1 y2 M → va_P D vwCl (wMu cy ad M) H → va_D A (wMu cy ad M) → va_S A s.heap H locs → lv_has ls 3 [(0, .ref (ad 0)), (1, .int (iI y1)), (2, .int (iI y2))] → W p l e rX1_fillTruth s m args below meth c H locs 0 0 Qg (F0 m 2 ls []) := by
    intro  n
    induction n with
    | zero => intro _ _ _ _ _ _ h; exact h.elim
    | succ n ih =>
      intro y1 y2 M H locs ls h hP hD hS hl
      rw [wX1_fillTruth_2_s] at h
      refine lv_iload_n F.1 F.2.1 dX1_fillTruth_2 rfl (lv_at hl 2 rfl) ?_
      refine lv_aload_n F.1 F.2.1 dX1_fillTruth_3 rfl (lv_at hl 0 rfl) ?_
      refine gv_get F hin1 hK hP 0 rfl rfl 7 (by decide) k130 rfl dX1_fillTruth_4 ?_
      obtain ⟨g1, h⟩ := h
      obtain ⟨g2, h⟩ := h
      refine gv_icmp_ge (tgt := 28) F g1 g2 dX1_fillTruth_7 (by decide) (fun c3 => ?_) (fun c3 => ?_)
      · have h := h.1 c3
        exact ret M H locs 28 ls h hP hD hS dX1_fillTruth_28
      · have h := h.2 c3
        refine lv_aload_n F.1 F.2.1 dX1_fillTruth_10 rfl (lv_at hl 0 rfl) ?_
        refine lv_iload_n F.1 F.2.1 dX1_fillTruth_11 rfl (lv_at hl 2 rfl) ?_
        refine lv_iload_n F.1 F.2.1 dX1_fillTruth_12 rfl (lv_at hl 1 rfl) ?_
        refine lv_aload_n F.1 F.2.1 dX1_fillTruth_13 rfl (lv_at hl 0 rfl) ?_
        refine gv_get F hin1 hK hP 0 rfl rfl 6 (by decide) k128 rfl dX1_fillTruth_14 ?_
        refine lv_iload_n F.1 F.2.1 dX1_fillTruth_17 rfl (lv_at hl 1 rfl) ?_
        obtain ⟨g4, h⟩ := h
        refine gv_iald (n := 8) (g := (M 7)) F hK hP 7 rfl rfl (by decide) g4 dX1_fillTruth_18 ?_
        refine gc_VV (As := [.int (iI y2), .int (iI y1), .int (iI ((M 7) y1))]) (wn := fun u : MS => wMu cy ad u) F hK hA hP hD hS hP hD (fun u H1 _ h1 h2 => ⟨h1, h2⟩) (c_X1_fill l D cy ad M y2 y1 ((M 7) y1) _ h) (cwV 3 F.2.2.2.2 (gG_V k472 k424 k425 k62 k426) rfl rfl rfl hd_X1_fill ⟨Nat.le_of_ble_eq_true rfl, Nat.le_of_ble_eq_true rfl⟩) rfl rfl dX1_fillTruth_19 rfl rfl hl.1 (Nat.le_of_ble_eq_true rfl) ⟨Nat.le_of_ble_eq_true rfl, Nat.le_of_ble_eq_true rfl⟩ (fun z5 H locs h hP hD hS => ?_)
        try dsimp only at h hP hD
        obtain ⟨v6, ev6⟩ : ∃ z : Int, z = y2 + 1 := ⟨_, rfl⟩
        have h := h v6 ev6
        refine gv_iinc (lv' := [(2, .int (iI v6)), (0, .ref (ad 0)), (1, .int (iI y1))]) F dX1_fillTruth_22 hl (k := 2) rfl ev6 (by decide) rfl (fun ls hl => ?_)
        refine lv_goto (tgt := 2) F.1 F.2.1 dX1_fillTruth_25 (by decide) ?_
        exact ih y1 v6 z5 H locs ls h hP hD hS (lv_sub hl [1, 2, 0] rfl)
  refine gv_iconst F dX1_fillTruth_0 ?_
  refine lv_istore_n (lv' := [(2, .int (iI 0)), (0, .ref (ad 0)), (1, .int (iI x1))]) F.1 F.2.1 dX1_fillTruth_1 rfl hl (by decide) rfl (fun ls hl => ?_)
  obtain ⟨n7, h⟩ := h
  exact L2 n7 x1 0 M H locs ls h hP hD hS (lv_sub hl [1, 2, 0] rfl)
abbrev rX1_sourceOf : Room := { frames := 0, cells := 0, slots := 0, locals := 0 }
set_option maxHeartbeats 4000000 in
set_option maxRecDepth 20000 in
theorem c_X1_sourceOf (l : Launch) (D : va_G) (cy : ClassId) (ad : Nat → Nat) (M : MS) (x1 x2 : Int) (Q : Int → Prop) (h : wX1_sourceOf M x1 x2 Q) : MetR l yX1_sourceOf (wT yX1_sourceOf cX1_sourceOf 3 (some .int)) rX1_sourceOf D cy [.ref (ad 0), .int (iI x1), .int (iI x2)] (wMu cy ad M) Q := by
  refine gI_R (by decide) (Nat.le_of_ble_eq_true rfl) ?_
  intro p e s m args below meth c A Qg F hK hA ret H locs ls hl hP hS
  have F : CallFix p m c cX1_sourceOf 3 s args gT RX1 := F
  have hl : lv_has ls 3 [(0, .ref (ad 0)), (1, .int (iI x1)), (2, .int (iI x2))] := hl
  refine lv_aload_n F.1 F.2.1 dX1_sourceOf_0 rfl (lv_at hl 0 rfl) ?_
  refine gv_get F hin1 hK hP 0 rfl rfl 14 (by decide) k143 rfl dX1_sourceOf_1 ?_
  refine lv_iload_n F.1 F.2.1 dX1_sourceOf_4 rfl (lv_at hl 1 rfl) ?_
  refine gv_bipush F ⟨by decide, by decide⟩ dX1_sourceOf_5 ?_
  refine gv_imul F dX1_sourceOf_7 ?_
  refine lv_iload_n F.1 F.2.1 dX1_sourceOf_8 rfl (lv_at hl 2 rfl) ?_
  refine gv_iadd F dX1_sourceOf_9 ?_
  obtain ⟨g1, h⟩ := h
  refine gv_iald (n := 40) (g := (M 14)) F hK hP 14 rfl rfl (by decide) g1 dX1_sourceOf_10 ?_
  exact ret ((M 14) ((x1 * 8) + x2)) H locs 11 ls h rfl hS dX1_sourceOf_11
abbrev rX1_nextQuestion : Room := { frames := 0, cells := 0, slots := 0, locals := 0 }
set_option maxHeartbeats 4000000 in
set_option maxRecDepth 20000 in
theorem c_X1_nextQuestion (l : Launch) (D : va_G) (cy : ClassId) (ad : Nat → Nat) (M : MS) (x1 : Int) (Q : Int → Prop) (h : wX1_nextQuestion M x1 Q) : MetR l yX1_nextQuestion (wT yX1_nextQuestion cX1_nextQuestion 4 (some .int)) rX1_nextQuestion D cy [.ref (ad 0), .int (iI x1)] (wMu cy ad M) Q := by
  refine gI_R (by decide) (Nat.le_of_ble_eq_true rfl) ?_
  intro p e s m args below meth c A Qg F hK hA ret H locs ls hl hP hS
  have F : CallFix p m c cX1_nextQuestion 4 s args gT RX1 := F
  have hl : lv_has ls 4 [(0, .ref (ad 0)), (1, .int (iI x1))] := hl
  have L2 : ∀ (n : Nat) (y1 : Int) (y2 : Int) (H : Heap) (locs : List Loc) (ls : Array Slot), wX1_nextQuestion_2 M Q n y1 y2 → va_P D vwCl (wMu cy ad M) H → va_S A s.heap H locs → lv_has ls 4 [(0, .ref (ad 0)), (1, .int (iI y1)), (2, .int (iI y2))] → W p l e rX1_nextQuestion s m args below meth c H locs 0 0 Qg (F0 m 2 ls []) := by
    intro  n
    induction n with
    | zero => intro _ _ _ _ _ h; exact h.elim
    | succ n ih =>
      intro y1 y2 H locs ls h hP hS hl
      rw [wX1_nextQuestion_2_s] at h
      refine lv_iload_n F.1 F.2.1 dX1_nextQuestion_2 rfl (lv_at hl 2 rfl) ?_
      refine lv_aload_n F.1 F.2.1 dX1_nextQuestion_3 rfl (lv_at hl 0 rfl) ?_
      refine gv_get F hin1 hK hP 0 rfl rfl 2 (by decide) k120 rfl dX1_nextQuestion_4 ?_
      obtain ⟨g1, h⟩ := h
      obtain ⟨g2, h⟩ := h
      refine gv_icmp_ge (tgt := 48) F g1 g2 dX1_nextQuestion_7 (by decide) (fun c3 => ?_) (fun c3 => ?_)
      · have h := h.1 c3
        refine gv_bipush F ⟨by decide, by decide⟩ dX1_nextQuestion_48 ?_
        exact ret (-9) H locs 50 ls h rfl hS dX1_nextQuestion_50
      · have h := h.2 c3
        refine lv_aload_n F.1 F.2.1 dX1_nextQuestion_10 rfl (lv_at hl 0 rfl) ?_
        refine gv_get F hin1 hK hP 0 rfl rfl 10 (by decide) k136 rfl dX1_nextQuestion_11 ?_
        refine lv_iload_n F.1 F.2.1 dX1_nextQuestion_14 rfl (lv_at hl 1 rfl) ?_
        obtain ⟨g4, h⟩ := h
        refine gv_iald (n := 5) (g := (M 10)) F hK hP 10 rfl rfl (by decide) g4 dX1_nextQuestion_15 ?_
        refine lv_iload_n F.1 F.2.1 dX1_nextQuestion_16 rfl (lv_at hl 2 rfl) ?_
        refine gv_iadd F dX1_nextQuestion_17 ?_
        refine lv_aload_n F.1 F.2.1 dX1_nextQuestion_18 rfl (lv_at hl 0 rfl) ?_
        refine gv_get F hin1 hK hP 0 rfl rfl 2 (by decide) k120 rfl dX1_nextQuestion_19 ?_
        obtain ⟨g5, h⟩ := h
        refine gv_irem F g5 dX1_nextQuestion_22 ?_
        refine gv_name (fun v6 ev6 => ?_)
        have h := h v6 ev6
        refine lv_istore_n (lv' := [(3, .int (iI v6)), (0, .ref (ad 0)), (1, .int (iI y1)), (2, .int (iI y2))]) F.1 F.2.1 dX1_nextQuestion_23 rfl hl (by decide) rfl (fun ls hl => ?_)
        refine lv_aload_n F.1 F.2.1 dX1_nextQuestion_24 rfl (lv_at hl 1 rfl) ?_
        refine gv_get F hin1 hK hP 0 rfl rfl 13 (by decide) k142 rfl dX1_nextQuestion_25 ?_
        refine lv_iload_n F.1 F.2.1 dX1_nextQuestion_28 rfl (lv_at hl 2 rfl) ?_
        refine gv_bipush F ⟨by decide, by decide⟩ dX1_nextQuestion_29 ?_
        refine gv_imul F dX1_nextQuestion_31 ?_
        refine lv_iload_n F.1 F.2.1 dX1_nextQuestion_32 rfl (lv_at hl 0 rfl) ?_
        refine gv_iadd F dX1_nextQuestion_33 ?_
        obtain ⟨g7, h⟩ := h
        refine gv_iald (n := 40) (g := (M 13)) F hK hP 13 rfl rfl (by decide) g7 dX1_nextQuestion_34 ?_
        refine gv_bipush F ⟨by decide, by decide⟩ dX1_nextQuestion_35 ?_
        obtain ⟨g8, h⟩ := h
        refine gv_icmp_ne (tgt := 42) F g8 ⟨by decide, by decide⟩ dX1_nextQuestion_37 (by decide) (fun c9 => ?_) (fun c9 => ?_)
        · have h := h.1 c9
          obtain ⟨v10, ev10⟩ : ∃ z : Int, z = y2 + 1 := ⟨_, rfl⟩
          have h := h v10 ev10
          refine gv_iinc (lv' := [(2, .int (iI v10)), (3, .int (iI v6)), (0, .ref (ad 0)), (1, .int (iI y1))]) F dX1_nextQuestion_42 hl (k := 3) rfl ev10 (by decide) rfl (fun ls hl => ?_)
          refine lv_goto (tgt := 2) F.1 F.2.1 dX1_nextQuestion_45 (by decide) ?_
          exact ih y1 v10 H locs ls h hP hS (lv_sub hl [2, 3, 0] rfl)
        · have h := h.2 c9
          refine lv_iload_n F.1 F.2.1 dX1_nextQuestion_40 rfl (lv_at hl 0 rfl) ?_
          exact ret v6 H locs 41 ls h rfl hS dX1_nextQuestion_41
  refine gv_iconst F dX1_nextQuestion_0 ?_
  refine lv_istore_n (lv' := [(2, .int (iI 0)), (0, .ref (ad 0)), (1, .int (iI x1))]) F.1 F.2.1 dX1_nextQuestion_1 rfl hl (by decide) rfl (fun ls hl => ?_)
  obtain ⟨n11, h⟩ := h
  exact L2 n11 x1 0 H locs ls h hP hS (lv_sub hl [1, 2, 0] rfl)
abbrev rX1_isDone : Room := { frames := 1, cells := 0, slots := 0, locals := 23 }
set_option maxHeartbeats 4000000 in
set_option maxRecDepth 20000 in
theorem c_X1_isDone (l : Launch) (D : va_G) (cy : ClassId) (ad : Nat → Nat) (M : MS) (x1 : Int) (Q : Int → Prop) (h : wX1_isDone M x1 Q) : MetR l yX1_isDone (wT yX1_isDone cX1_isDone 2 (some .boolean)) rX1_isDone D cy [.ref (ad 0), .int (iI x1)] (wMu cy ad M) (fun u => (u = 0 ∨ u = 1) ∧ Q u) := by
  refine gI_R (by decide) (Nat.le_of_ble_eq_true rfl) ?_
  intro p e s m args below meth c A Qg F hK hA ret H locs ls hl hP hS
  have F : CallFix p m c cX1_isDone 2 s args gT RX1 := F
  have hl : lv_has ls 2 [(0, .ref (ad 0)), (1, .int (iI x1))] := hl
  refine lv_aload_n F.1 F.2.1 dX1_isDone_0 rfl (lv_at hl 0 rfl) ?_
  refine lv_iload_n F.1 F.2.1 dX1_isDone_1 rfl (lv_at hl 1 rfl) ?_
  refine gc_VR (As := [.int (iI x1)]) F hK hA hP hS hP (c_X1_nextQuestion l D cy ad M x1 _ h) (cwV 1 F.2.2.2.2 (gG_V k439 k440 k441 k62 k442) rfl rfl rfl hd_X1_nextQuestion ⟨Nat.le_of_ble_eq_true rfl, Nat.le_of_ble_eq_true rfl⟩) rfl rfl dX1_isDone_2 rfl rfl hl.1 (Nat.le_of_ble_eq_true rfl) ⟨Nat.le_of_ble_eq_true rfl, Nat.le_of_ble_eq_true rfl⟩ (fun u1 H locs h hP hS => ?_)
  refine gv_bipush F ⟨by decide, by decide⟩ dX1_isDone_5 ?_
  obtain ⟨g2, h⟩ := h
  refine gv_icmp_ne (tgt := 14) F g2 ⟨by decide, by decide⟩ dX1_isDone_7 (by decide) (fun c3 => ?_) (fun c3 => ?_)
  · have h := h.1 c3
    refine gv_iconst F dX1_isDone_14 ?_
    exact ret 0 H locs 15 ls ⟨Or.inl rfl, h⟩ rfl hS dX1_isDone_15
  · have h := h.2 c3
    refine gv_iconst F dX1_isDone_10 ?_
    refine lv_goto (tgt := 15) F.1 F.2.1 dX1_isDone_11 (by decide) ?_
    exact ret 1 H locs 15 ls ⟨Or.inr rfl, h⟩ rfl hS dX1_isDone_15
abbrev rX1_undone : Room := { frames := 2, cells := 0, slots := 0, locals := 44 }
set_option maxHeartbeats 4000000 in
set_option maxRecDepth 20000 in
theorem c_X1_undone (l : Launch) (D : va_G) (cy : ClassId) (ad : Nat → Nat) (M : MS) (Q : Int → Prop) (h : wX1_undone M Q) : MetR l yX1_undone (wT yX1_undone cX1_undone 3 (some .int)) rX1_undone D cy [.ref (ad 0)] (wMu cy ad M) Q := by
  refine gI_R (by decide) (Nat.le_of_ble_eq_true rfl) ?_
  intro p e s m args below meth c A Qg F hK hA ret H locs ls hl hP hS
  have F : CallFix p m c cX1_undone 3 s args gT RX1 := F
  have hl : lv_has ls 3 [(0, .ref (ad 0))] := hl
  have L4 : ∀ (n : Nat) (y1 : Int) (y2 : Int) (H : Heap) (locs : List Loc) (ls : Array Slot), wX1_undone_4 M Q n y1 y2 → va_P D vwCl (wMu cy ad M) H → va_S A s.heap H locs → lv_has ls 3 [(0, .ref (ad 0)), (1, .int (iI y1)), (2, .int (iI y2))] → W p l e rX1_undone s m args below meth c H locs 0 0 Qg (F0 m 4 ls []) := by
    intro  n
    induction n with
    | zero => intro _ _ _ _ _ h; exact h.elim
    | succ n ih =>
      intro y1 y2 H locs ls h hP hS hl
      rw [wX1_undone_4_s] at h
      refine lv_iload_n F.1 F.2.1 dX1_undone_4 rfl (lv_at hl 2 rfl) ?_
      refine lv_aload_n F.1 F.2.1 dX1_undone_5 rfl (lv_at hl 0 rfl) ?_
      refine gv_get F hin1 hK hP 0 rfl rfl 7 (by decide) k130 rfl dX1_undone_6 ?_
      obtain ⟨g1, h⟩ := h
      obtain ⟨g2, h⟩ := h
      refine gv_icmp_ge (tgt := 34) F g1 g2 dX1_undone_9 (by decide) (fun c3 => ?_) (fun c3 => ?_)
      · have h := h.1 c3
        refine lv_iload_n F.1 F.2.1 dX1_undone_34 rfl (lv_at hl 1 rfl) ?_
        exact ret y1 H locs 35 ls h rfl hS dX1_undone_35
      · have h := h.2 c3
        refine lv_iload_n F.1 F.2.1 dX1_undone_12 rfl (lv_at hl 1 rfl) ?_
        refine lv_aload_n F.1 F.2.1 dX1_undone_13 rfl (lv_at hl 0 rfl) ?_
        refine lv_iload_n F.1 F.2.1 dX1_undone_14 rfl (lv_at hl 2 rfl) ?_
        refine gc_VR (As := [.int (iI y2)]) F hK hA hP hS hP (c_X1_isDone l D cy ad M y2 _ h) (cwV 1 F.2.2.2.2 (gG_V k592 k569 k570 k62 k571) rfl rfl rfl hd_X1_isDone ⟨Nat.le_of_ble_eq_true rfl, Nat.le_of_ble_eq_true rfl⟩) rfl rfl dX1_undone_15 rfl rfl hl.1 (Nat.le_of_ble_eq_true rfl) ⟨Nat.le_of_ble_eq_true rfl, Nat.le_of_ble_eq_true rfl⟩ (fun u4 H locs h hP hS => ?_)
        obtain ⟨bu4, h⟩ := h
        refine gv_if_eq (tgt := 25) F (gRb bu4) dX1_undone_18 (by decide) (fun c5 => ?_) (fun c5 => ?_)
        · have h := h.1 c5
          refine gv_iconst F dX1_undone_25 ?_
          refine gv_iadd F dX1_undone_26 ?_
          refine gv_name (fun v6 ev6 => ?_)
          have h := h v6 ev6
          refine lv_istore_n (lv' := [(1, .int (iI v6)), (0, .ref (ad 0)), (2, .int (iI y2))]) F.1 F.2.1 dX1_undone_27 rfl hl (by decide) rfl (fun ls hl => ?_)
          obtain ⟨v7, ev7⟩ : ∃ z : Int, z = y2 + 1 := ⟨_, rfl⟩
          have h := h v7 ev7
          refine gv_iinc (lv' := [(2, .int (iI v7)), (1, .int (iI v6)), (0, .ref (ad 0))]) F dX1_undone_28 hl (k := 2) rfl ev7 (by decide) rfl (fun ls hl => ?_)
          refine lv_goto (tgt := 4) F.1 F.2.1 dX1_undone_31 (by decide) ?_
          exact ih v6 v7 H locs ls h hP hS (lv_sub hl [2, 1, 0] rfl)
        · have h := h.2 c5
          refine gv_iconst F dX1_undone_21 ?_
          refine lv_goto (tgt := 26) F.1 F.2.1 dX1_undone_22 (by decide) ?_
          refine gv_iadd F dX1_undone_26 ?_
          refine gv_name (fun v8 ev8 => ?_)
          have h := h v8 ev8
          refine lv_istore_n (lv' := [(1, .int (iI v8)), (0, .ref (ad 0)), (2, .int (iI y2))]) F.1 F.2.1 dX1_undone_27 rfl hl (by decide) rfl (fun ls hl => ?_)
          obtain ⟨v9, ev9⟩ : ∃ z : Int, z = y2 + 1 := ⟨_, rfl⟩
          have h := h v9 ev9
          refine gv_iinc (lv' := [(2, .int (iI v9)), (1, .int (iI v8)), (0, .ref (ad 0))]) F dX1_undone_28 hl (k := 2) rfl ev9 (by decide) rfl (fun ls hl => ?_)
          refine lv_goto (tgt := 4) F.1 F.2.1 dX1_undone_31 (by decide) ?_
          exact ih v8 v9 H locs ls h hP hS (lv_sub hl [2, 1, 0] rfl)
  refine gv_iconst F dX1_undone_0 ?_
  refine lv_istore_n (lv' := [(1, .int (iI 0)), (0, .ref (ad 0))]) F.1 F.2.1 dX1_undone_1 rfl hl (by decide) rfl (fun ls hl => ?_)
  refine gv_iconst F dX1_undone_2 ?_
  refine lv_istore_n (lv' := [(2, .int (iI 0)), (1, .int (iI 0)), (0, .ref (ad 0))]) F.1 F.2.1 dX1_undone_3 rfl hl (by decide) rfl (fun ls hl => ?_)
  obtain ⟨n10, h⟩ := h
  exact L4 n10 0 0 H locs ls h hP hS (lv_sub hl [2, 1, 0] rfl)
abbrev rX1_minutesFor : Room := { frames := 0, cells := 0, slots := 0, locals := 0 }
set_option maxHeartbeats 4000000 in
set_option maxRecDepth 20000 in
theorem c_X1_minutesFor (l : Launch) (D : va_G) (cy : ClassId) (ad : Nat → Nat) (M : MS) (x1 : Int) (Q : Int → Prop) (h : wX1_minutesFor M x1 Q) : MetR l yX1_minutesFor (wT yX1_minutesFor cX1_minutesFor 2 (some .int)) rX1_minutesFor D cy [.ref (ad 0), .int (iI x1)] (wMu cy ad M) Q := by
  refine gI_R (by decide) (Nat.le_of_ble_eq_true rfl) ?_
  intro p e s m args below meth c A Qg F hK hA ret H locs ls hl hP hS
  have F : CallFix p m c cX1_minutesFor 2 s args gT RX1 := F
  have hl : lv_has ls 2 [(0, .ref (ad 0)), (1, .int (iI x1))] := hl
  refine lv_aload_n F.1 F.2.1 dX1_minutesFor_0 rfl (lv_at hl 0 rfl) ?_
  refine gv_get F hin1 hK hP 0 rfl rfl 3 (by decide) k122 rfl dX1_minutesFor_1 ?_
  refine lv_iload_n F.1 F.2.1 dX1_minutesFor_4 rfl (lv_at hl 1 rfl) ?_
  obtain ⟨g1, h⟩ := h
  refine gv_iald (n := 8) (g := (M 4)) F hK hP 4 rfl rfl (by decide) g1 dX1_minutesFor_5 ?_
  obtain ⟨g2, h⟩ := h
  by_cases c3 : ((M 4) x1) = 1
  · have h := h.1 c3
    refine gv_tableIn (tgt := 40) (off := 34) F g2 c3 (by decide) (by decide) dX1_minutesFor_6 rfl (by decide) ?_
    refine gv_iconst F dX1_minutesFor_40 ?_
    refine lv_aload_n F.1 F.2.1 dX1_minutesFor_41 rfl (lv_at hl 0 rfl) ?_
    refine gv_get F hin1 hK hP 0 rfl rfl 4 (by decide) k124 rfl dX1_minutesFor_42 ?_
    refine lv_iload_n F.1 F.2.1 dX1_minutesFor_45 rfl (lv_at hl 1 rfl) ?_
    obtain ⟨g4, h⟩ := h
    refine gv_iald (n := 8) (g := (M 5)) F hK hP 5 rfl rfl (by decide) g4 dX1_minutesFor_46 ?_
    refine gv_iadd F dX1_minutesFor_47 ?_
    exact ret (1 + ((M 5) x1)) H locs 48 ls h rfl hS dX1_minutesFor_48
  by_cases c5 : ((M 4) x1) = 2
  · have h := h.2.1 c5
    refine gv_tableIn (tgt := 53) (off := 47) F g2 c5 (by decide) (by decide) dX1_minutesFor_6 rfl (by decide) ?_
    refine gv_iconst F dX1_minutesFor_53 ?_
    exact ret 1 H locs 54 ls h rfl hS dX1_minutesFor_54
  by_cases c6 : ((M 4) x1) = 3
  · have h := h.2.2.1 c6
    refine gv_tableIn (tgt := 49) (off := 43) F g2 c6 (by decide) (by decide) dX1_minutesFor_6 rfl (by decide) ?_
    refine gv_iconst F dX1_minutesFor_49 ?_
    exact ret 2 H locs 50 ls h rfl hS dX1_minutesFor_50
  by_cases c7 : ((M 4) x1) = 4
  · have h := h.2.2.2.1 c7
    refine gv_tableIn (tgt := 40) (off := 34) F g2 c7 (by decide) (by decide) dX1_minutesFor_6 rfl (by decide) ?_
    refine gv_iconst F dX1_minutesFor_40 ?_
    refine lv_aload_n F.1 F.2.1 dX1_minutesFor_41 rfl (lv_at hl 0 rfl) ?_
    refine gv_get F hin1 hK hP 0 rfl rfl 4 (by decide) k124 rfl dX1_minutesFor_42 ?_
    refine lv_iload_n F.1 F.2.1 dX1_minutesFor_45 rfl (lv_at hl 1 rfl) ?_
    obtain ⟨g8, h⟩ := h
    refine gv_iald (n := 8) (g := (M 5)) F hK hP 5 rfl rfl (by decide) g8 dX1_minutesFor_46 ?_
    refine gv_iadd F dX1_minutesFor_47 ?_
    exact ret (1 + ((M 5) x1)) H locs 48 ls h rfl hS dX1_minutesFor_48
  by_cases c9 : ((M 4) x1) = 5
  · have h := h.2.2.2.2.1 c9
    refine gv_tableIn (tgt := 51) (off := 45) F g2 c9 (by decide) (by decide) dX1_minutesFor_6 rfl (by decide) ?_
    refine gv_iconst F dX1_minutesFor_51 ?_
    exact ret 3 H locs 52 ls h rfl hS dX1_minutesFor_52
  have cd : ((M 4) x1) < 1 ∨ 5 < ((M 4) x1) := by omega
  have h := h.2.2.2.2.2 cd
  refine gv_tableOut (tgt := 53) F g2 cd dX1_minutesFor_6 (by decide) ?_
  refine gv_iconst F dX1_minutesFor_53 ?_
  exact ret 1 H locs 54 ls h rfl hS dX1_minutesFor_54
abbrev rX1_wouldCopy : Room := { frames := 0, cells := 0, slots := 0, locals := 0 }
set_option maxHeartbeats 4000000 in
set_option maxRecDepth 20000 in
theorem c_X1_wouldCopy (l : Launch) (D : va_G) (cy : ClassId) (ad : Nat → Nat) (M : MS) (x1 x2 : Int) (Q : Int → Prop) (h : wX1_wouldCopy M x1 x2 Q) : MetR l yX1_wouldCopy (wT yX1_wouldCopy cX1_wouldCopy 3 (some .boolean)) rX1_wouldCopy D cy [.ref (ad 0), .int (iI x1), .int (iI x2)] (wMu cy ad M) (fun u => (u = 0 ∨ u = 1) ∧ Q u) := by
  refine gI_R (by decide) (Nat.le_of_ble_eq_true rfl) ?_
  intro p e s m args below meth c A Qg F hK hA ret H locs ls hl hP hS
  have F : CallFix p m c cX1_wouldCopy 3 s args gT RX1 := F
  have hl : lv_has ls 3 [(0, .ref (ad 0)), (1, .int (iI x1)), (2, .int (iI x2))] := hl
  refine lv_aload_n F.1 F.2.1 dX1_wouldCopy_0 rfl (lv_at hl 0 rfl) ?_
  refine gv_get F hin1 hK hP 0 rfl rfl 3 (by decide) k122 rfl dX1_wouldCopy_1 ?_
  refine lv_iload_n F.1 F.2.1 dX1_wouldCopy_4 rfl (lv_at hl 2 rfl) ?_
  obtain ⟨g1, h⟩ := h
  refine gv_iald (n := 8) (g := (M 4)) F hK hP 4 rfl rfl (by decide) g1 dX1_wouldCopy_5 ?_
  obtain ⟨g2, h⟩ := h
  by_cases c3 : ((M 4) x2) = 0
  · have h := h.1 c3
    refine gv_lookup (tgt := 32) (off := 26) F g2 dX1_wouldCopy_6 (by decide) (by rw [c3]; rfl) (by decide) ?_
    refine lv_aload_n F.1 F.2.1 dX1_wouldCopy_32 rfl (lv_at hl 0 rfl) ?_
    refine gv_get F hin1 hK hP 0 rfl rfl 8 (by decide) k132 rfl dX1_wouldCopy_33 ?_
    refine lv_iload_n F.1 F.2.1 dX1_wouldCopy_36 rfl (lv_at hl 1 rfl) ?_
    obtain ⟨g4, h⟩ := h
    refine gv_iald (n := 5) (g := (M 8)) F hK hP 8 rfl rfl (by decide) g4 dX1_wouldCopy_37 ?_
    refine lv_aload_n F.1 F.2.1 dX1_wouldCopy_38 rfl (lv_at hl 0 rfl) ?_
    refine gv_get F hin1 hK hP 0 rfl rfl 4 (by decide) k124 rfl dX1_wouldCopy_39 ?_
    refine lv_iload_n F.1 F.2.1 dX1_wouldCopy_42 rfl (lv_at hl 2 rfl) ?_
    obtain ⟨g5, h⟩ := h
    refine gv_iald (n := 8) (g := (M 5)) F hK hP 5 rfl rfl (by decide) g5 dX1_wouldCopy_43 ?_
    obtain ⟨g6, h⟩ := h
    obtain ⟨g7, h⟩ := h
    refine gv_icmp_ge (tgt := 51) F g6 g7 dX1_wouldCopy_44 (by decide) (fun c8 => ?_) (fun c8 => ?_)
    · have h := h.1 c8
      refine gv_iconst F dX1_wouldCopy_51 ?_
      exact ret 0 H locs 52 ls ⟨Or.inl rfl, h⟩ rfl hS dX1_wouldCopy_52
    · have h := h.2 c8
      refine gv_iconst F dX1_wouldCopy_47 ?_
      refine lv_goto (tgt := 52) F.1 F.2.1 dX1_wouldCopy_48 (by decide) ?_
      exact ret 1 H locs 52 ls ⟨Or.inr rfl, h⟩ rfl hS dX1_wouldCopy_52
  by_cases c9 : ((M 4) x2) = 1
  · have h := h.2.1 c9
    refine gv_lookup (tgt := 32) (off := 26) F g2 dX1_wouldCopy_6 (by decide) (by rw [c9]; rfl) (by decide) ?_
    refine lv_aload_n F.1 F.2.1 dX1_wouldCopy_32 rfl (lv_at hl 0 rfl) ?_
    refine gv_get F hin1 hK hP 0 rfl rfl 8 (by decide) k132 rfl dX1_wouldCopy_33 ?_
    refine lv_iload_n F.1 F.2.1 dX1_wouldCopy_36 rfl (lv_at hl 1 rfl) ?_
    obtain ⟨g10, h⟩ := h
    refine gv_iald (n := 5) (g := (M 8)) F hK hP 8 rfl rfl (by decide) g10 dX1_wouldCopy_37 ?_
    refine lv_aload_n F.1 F.2.1 dX1_wouldCopy_38 rfl (lv_at hl 0 rfl) ?_
    refine gv_get F hin1 hK hP 0 rfl rfl 4 (by decide) k124 rfl dX1_wouldCopy_39 ?_
    refine lv_iload_n F.1 F.2.1 dX1_wouldCopy_42 rfl (lv_at hl 2 rfl) ?_
    obtain ⟨g11, h⟩ := h
    refine gv_iald (n := 8) (g := (M 5)) F hK hP 5 rfl rfl (by decide) g11 dX1_wouldCopy_43 ?_
    obtain ⟨g12, h⟩ := h
    obtain ⟨g13, h⟩ := h
    refine gv_icmp_ge (tgt := 51) F g12 g13 dX1_wouldCopy_44 (by decide) (fun c14 => ?_) (fun c14 => ?_)
    · have h := h.1 c14
      refine gv_iconst F dX1_wouldCopy_51 ?_
      exact ret 0 H locs 52 ls ⟨Or.inl rfl, h⟩ rfl hS dX1_wouldCopy_52
    · have h := h.2 c14
      refine gv_iconst F dX1_wouldCopy_47 ?_
      refine lv_goto (tgt := 52) F.1 F.2.1 dX1_wouldCopy_48 (by decide) ?_
      exact ret 1 H locs 52 ls ⟨Or.inr rfl, h⟩ rfl hS dX1_wouldCopy_52
  have cd : ¬ ((M 4) x2) = 0 ∧ ¬ ((M 4) x2) = 1 := ⟨c3, c9⟩
  have h := h.2.2 cd
  refine gv_lookup (tgt := 53) (off := 47) F g2 dX1_wouldCopy_6 (by decide) (by rw [Op.lookupswitch.offset_cons, if_neg (fun q => c3 q.symm)]; rw [Op.lookupswitch.offset_cons, if_neg (fun q => c9 q.symm)]; rfl) (by decide) ?_
  refine lv_aload_n F.1 F.2.1 dX1_wouldCopy_53 rfl (lv_at hl 0 rfl) ?_
  refine gv_get F hin1 hK hP 0 rfl rfl 3 (by decide) k122 rfl dX1_wouldCopy_54 ?_
  refine lv_iload_n F.1 F.2.1 dX1_wouldCopy_57 rfl (lv_at hl 2 rfl) ?_
  obtain ⟨g15, h⟩ := h
  refine gv_iald (n := 8) (g := (M 4)) F hK hP 4 rfl rfl (by decide) g15 dX1_wouldCopy_58 ?_
  refine gv_iconst F dX1_wouldCopy_59 ?_
  refine gv_icmp_ne (tgt := 67) F g2 ⟨by decide, by decide⟩ dX1_wouldCopy_60 (by decide) (fun c16 => ?_) (fun c16 => ?_)
  · have h := h.1 c16
    refine gv_iconst F dX1_wouldCopy_67 ?_
    exact ret 0 H locs 68 ls ⟨Or.inl rfl, h⟩ rfl hS dX1_wouldCopy_68
  · have h := h.2 c16
    refine gv_iconst F dX1_wouldCopy_63 ?_
    refine lv_goto (tgt := 68) F.1 F.2.1 dX1_wouldCopy_64 (by decide) ?_
    exact ret 1 H locs 68 ls ⟨Or.inr rfl, h⟩ rfl hS dX1_wouldCopy_68
abbrev rX1_sourceFor : Room := { frames := 0, cells := 0, slots := 0, locals := 0 }
set_option maxHeartbeats 4000000 in
set_option maxRecDepth 20000 in
theorem c_X1_sourceFor (l : Launch) (D : va_G) (cy : ClassId) (ad : Nat → Nat) (M : MS) (x1 x2 : Int) (Q : Int → Prop) (h : wX1_sourceFor M x1 x2 Q) : MetR l yX1_sourceFor (wT yX1_sourceFor cX1_sourceFor 5 (some .int)) rX1_sourceFor D cy [.ref (ad 0), .int (iI x1), .int (iI x2)] (wMu cy ad M) Q := by
  refine gI_R (by decide) (Nat.le_of_ble_eq_true rfl) ?_
  intro p e s m args below meth c A Qg F hK hA ret H locs ls hl hP hS
  have F : CallFix p m c cX1_sourceFor 5 s args gT RX1 := F
  have hl : lv_has ls 5 [(0, .ref (ad 0)), (1, .int (iI x1)), (2, .int (iI x2))] := hl
  have L35 : ∀ (K2 : Int → Int → Int → Prop) (hK2 : ∀ (y1 : Int) (y2 : Int) (y3 : Int) (H : Heap) (locs : List Loc) (ls : Array Slot), K2 y1 y2 y3 → va_P D vwCl (wMu cy ad M) H → va_S A s.heap H locs → lv_has ls 5 [(0, .ref (ad 0)), (1, .int (iI y1)), (2, .int (iI y2)), (3, .int (iI y3))] → W p l e rX1_sourceFor s m args below meth c H locs 0 0 Qg (F0 m 2 ls [])) (y1 : Int) (y2 : Int) (y3 : Int) (t0 : Int) (H : Heap) (locs : List Loc) (ls : Array Slot), wX1_sourceFor_35 M K2 Q y1 y2 y3 t0 → va_P D vwCl (wMu cy ad M) H → va_S A s.heap H locs → lv_has ls 5 [(0, .ref (ad 0)), (1, .int (iI y1)), (2, .int (iI y2)), (3, .int (iI y3))] → W p l e rX1_sourceFor s m args below meth c H locs 0 0 Qg (F0 m 35 ls [.int (iI t0)]) := by
    intro K2 hK2
    intro y1 y2 y3 t0 H locs ls h hP hS hl
    refine lv_istore (lv' := [(4, .int (iI t0)), (0, .ref (ad 0)), (1, .int (iI y1)), (2, .int (iI y2)), (3, .int (iI y3))]) F.1 F.2.1 dX1_sourceFor_35 hl (by decide) rfl (fun ls hl => ?_)
    refine lv_iload F.1 F.2.1 dX1_sourceFor_37 (lv_at hl 0 rfl) ?_
    obtain ⟨g1, h⟩ := h
    refine gv_if_eq (tgt := 60) F g1 dX1_sourceFor_39 (by decide) (fun c2 => ?_) (fun c2 => ?_)
    · have h := h.1 c2
      obtain ⟨v3, ev3⟩ : ∃ z : Int, z = y3 + 1 := ⟨_, rfl⟩
      have h := h v3 ev3
      refine gv_iinc (lv' := [(3, .int (iI v3)), (4, .int (iI t0)), (0, .ref (ad 0)), (1, .int (iI y1)), (2, .int (iI y2))]) F dX1_sourceFor_60 hl (k := 4) rfl ev3 (by decide) rfl (fun ls hl => ?_)
      refine lv_goto (tgt := 2) F.1 F.2.1 dX1_sourceFor_63 (by decide) ?_
      exact hK2 y1 y2 v3 H locs ls h hP hS (lv_sub hl [2, 3, 4, 0] rfl)
    · have h := h.2 c2
      refine lv_aload_n F.1 F.2.1 dX1_sourceFor_42 rfl (lv_at hl 1 rfl) ?_
      refine gv_get F hin1 hK hP 0 rfl rfl 13 (by decide) k142 rfl dX1_sourceFor_43 ?_
      refine lv_iload_n F.1 F.2.1 dX1_sourceFor_46 rfl (lv_at hl 4 rfl) ?_
      refine gv_bipush F ⟨by decide, by decide⟩ dX1_sourceFor_47 ?_
      refine gv_imul F dX1_sourceFor_49 ?_
      refine lv_iload_n F.1 F.2.1 dX1_sourceFor_50 rfl (lv_at hl 3 rfl) ?_
      refine gv_iadd F dX1_sourceFor_51 ?_
      obtain ⟨g4, h⟩ := h
      refine gv_iald (n := 40) (g := (M 13)) F hK hP 13 rfl rfl (by decide) g4 dX1_sourceFor_52 ?_
      refine gv_bipush F ⟨by decide, by decide⟩ dX1_sourceFor_53 ?_
      obtain ⟨g5, h⟩ := h
      refine gv_icmp_eq (tgt := 60) F g5 ⟨by decide, by decide⟩ dX1_sourceFor_55 (by decide) (fun c6 => ?_) (fun c6 => ?_)
      · have h := h.1 c6
        obtain ⟨v7, ev7⟩ : ∃ z : Int, z = y3 + 1 := ⟨_, rfl⟩
        have h := h v7 ev7
        refine gv_iinc (lv' := [(3, .int (iI v7)), (4, .int (iI t0)), (0, .ref (ad 0)), (1, .int (iI y1)), (2, .int (iI y2))]) F dX1_sourceFor_60 hl (k := 4) rfl ev7 (by decide) rfl (fun ls hl => ?_)
        refine lv_goto (tgt := 2) F.1 F.2.1 dX1_sourceFor_63 (by decide) ?_
        exact hK2 y1 y2 v7 H locs ls h hP hS (lv_sub hl [2, 3, 4, 0] rfl)
      · have h := h.2 c6
        refine lv_iload_n F.1 F.2.1 dX1_sourceFor_58 rfl (lv_at hl 4 rfl) ?_
        exact ret y3 H locs 59 ls h rfl hS dX1_sourceFor_59
  have L2 : ∀ (n : Nat) (y1 : Int) (y2 : Int) (y3 : Int) (H : Heap) (locs : List Loc) (ls : Array Slot), wX1_sourceFor_2 M Q n y1 y2 y3 → va_P D vwCl (wMu cy ad M) H → va_S A s.heap H locs → lv_has ls 5 [(0, .ref (ad 0)), (1, .int (iI y1)), (2, .int (iI y2)), (3, .int (iI y3))] → W p l e rX1_sourceFor s m args below meth c H locs 0 0 Qg (F0 m 2 ls []) := by
    intro  n
    induction n with
    | zero => intro _ _ _ _ _ _ h; exact h.elim
    | succ n ih =>
      intro y1 y2 y3 H locs ls h hP hS hl
      rw [wX1_sourceFor_2_s] at h
      refine lv_iload_n F.1 F.2.1 dX1_sourceFor_2 rfl (lv_at hl 3 rfl) ?_
      refine lv_aload_n F.1 F.2.1 dX1_sourceFor_3 rfl (lv_at hl 0 rfl) ?_
      refine gv_get F hin1 hK hP 0 rfl rfl 7 (by decide) k130 rfl dX1_sourceFor_4 ?_
      obtain ⟨g8, h⟩ := h
      obtain ⟨g9, h⟩ := h
      refine gv_icmp_ge (tgt := 66) F g8 g9 dX1_sourceFor_7 (by decide) (fun c10 => ?_) (fun c10 => ?_)
      · have h := h.1 c10
        refine gv_bipush F ⟨by decide, by decide⟩ dX1_sourceFor_66 ?_
        exact ret (-9) H locs 68 ls h rfl hS dX1_sourceFor_68
      · have h := h.2 c10
        refine lv_iload_n F.1 F.2.1 dX1_sourceFor_10 rfl (lv_at hl 3 rfl) ?_
        refine lv_iload_n F.1 F.2.1 dX1_sourceFor_11 rfl (lv_at hl 1 rfl) ?_
        obtain ⟨g11, h⟩ := h
        refine gv_icmp_eq (tgt := 34) F g8 g11 dX1_sourceFor_12 (by decide) (fun c12 => ?_) (fun c12 => ?_)
        · have h := h.1 c12
          refine gv_iconst F dX1_sourceFor_34 ?_
          exact L35 _ ih y1 y2 y3 0 H locs ls h hP hS (lv_sub hl [0, 1, 2, 3] rfl)
        · have h := h.2 c12
          refine lv_aload_n F.1 F.2.1 dX1_sourceFor_15 rfl (lv_at hl 0 rfl) ?_
          refine gv_get F hin1 hK hP 0 rfl rfl 11 (by decide) k138 rfl dX1_sourceFor_16 ?_
          refine lv_iload_n F.1 F.2.1 dX1_sourceFor_19 rfl (lv_at hl 3 rfl) ?_
          obtain ⟨g13, h⟩ := h
          refine gv_iald (n := 5) (g := (M 11)) F hK hP 11 rfl rfl (by decide) g13 dX1_sourceFor_20 ?_
          refine lv_aload_n F.1 F.2.1 dX1_sourceFor_21 rfl (lv_at hl 0 rfl) ?_
          refine gv_get F hin1 hK hP 0 rfl rfl 11 (by decide) k138 rfl dX1_sourceFor_22 ?_
          refine lv_iload_n F.1 F.2.1 dX1_sourceFor_25 rfl (lv_at hl 1 rfl) ?_
          obtain ⟨g14, h⟩ := h
          refine gv_iald (n := 5) (g := (M 11)) F hK hP 11 rfl rfl (by decide) g14 dX1_sourceFor_26 ?_
          obtain ⟨g15, h⟩ := h
          obtain ⟨g16, h⟩ := h
          refine gv_icmp_ne (tgt := 34) F g15 g16 dX1_sourceFor_27 (by decide) (fun c17 => ?_) (fun c17 => ?_)
          · have h := h.1 c17
            refine gv_iconst F dX1_sourceFor_34 ?_
            exact L35 _ ih y1 y2 y3 0 H locs ls h hP hS (lv_sub hl [0, 1, 2, 3] rfl)
          · have h := h.2 c17
            refine gv_iconst F dX1_sourceFor_30 ?_
            refine lv_goto (tgt := 35) F.1 F.2.1 dX1_sourceFor_31 (by decide) ?_
            exact L35 _ ih y1 y2 y3 1 H locs ls h hP hS (lv_sub hl [0, 1, 2, 3] rfl)
  refine gv_iconst F dX1_sourceFor_0 ?_
  refine lv_istore_n (lv' := [(3, .int (iI 0)), (0, .ref (ad 0)), (1, .int (iI x1)), (2, .int (iI x2))]) F.1 F.2.1 dX1_sourceFor_1 rfl hl (by decide) rfl (fun ls hl => ?_)
  obtain ⟨n18, h⟩ := h
  exact L2 n18 x1 x2 0 H locs ls h hP hS (lv_sub hl [1, 2, 3, 0] rfl)
abbrev rX1_ownAnswer : Room := { frames := 0, cells := 0, slots := 0, locals := 0 }
set_option maxHeartbeats 4000000 in
set_option maxRecDepth 20000 in
theorem c_X1_ownAnswer (l : Launch) (D : va_G) (cy : ClassId) (ad : Nat → Nat) (M : MS) (x1 x2 : Int) (Q : Int → Prop) (h : wX1_ownAnswer M x1 x2 Q) : MetR l yX1_ownAnswer (wT yX1_ownAnswer cX1_ownAnswer 4 (some .int)) rX1_ownAnswer D cy [.ref (ad 0), .int (iI x1), .int (iI x2)] (wMu cy ad M) Q := by
  refine gI_R (by decide) (Nat.le_of_ble_eq_true rfl) ?_
  intro p e s m args below meth c A Qg F hK hA ret H locs ls hl hP hS
  have F : CallFix p m c cX1_ownAnswer 4 s args gT RX1 := F
  have hl : lv_has ls 4 [(0, .ref (ad 0)), (1, .int (iI x1)), (2, .int (iI x2))] := hl
  refine lv_aload_n F.1 F.2.1 dX1_ownAnswer_0 rfl (lv_at hl 0 rfl) ?_
  refine gv_get F hin1 hK hP 0 rfl rfl 6 (by decide) k128 rfl dX1_ownAnswer_1 ?_
  refine lv_iload_n F.1 F.2.1 dX1_ownAnswer_4 rfl (lv_at hl 2 rfl) ?_
  obtain ⟨g1, h⟩ := h
  refine gv_iald (n := 8) (g := (M 7)) F hK hP 7 rfl rfl (by decide) g1 dX1_ownAnswer_5 ?_
  refine gv_name (fun v2 ev2 => ?_)
  have h := h v2 ev2
  refine lv_istore_n (lv' := [(3, .int (iI v2)), (0, .ref (ad 0)), (1, .int (iI x1)), (2, .int (iI x2))]) F.1 F.2.1 dX1_ownAnswer_6 rfl hl (by decide) rfl (fun ls hl => ?_)
  refine lv_aload_n F.1 F.2.1 dX1_ownAnswer_7 rfl (lv_at hl 1 rfl) ?_
  refine gv_get F hin1 hK hP 0 rfl rfl 3 (by decide) k122 rfl dX1_ownAnswer_8 ?_
  refine lv_iload_n F.1 F.2.1 dX1_ownAnswer_11 rfl (lv_at hl 3 rfl) ?_
  obtain ⟨g3, h⟩ := h
  refine gv_iald (n := 8) (g := (M 4)) F hK hP 4 rfl rfl (by decide) g3 dX1_ownAnswer_12 ?_
  obtain ⟨g4, h⟩ := h
  by_cases c5 : ((M 4) x2) = 3
  · have h := h.1 c5
    refine gv_tableIn (tgt := 40) (off := 27) F g4 c5 (by decide) (by decide) dX1_ownAnswer_13 rfl (by decide) ?_
    refine lv_aload_n F.1 F.2.1 dX1_ownAnswer_40 rfl (lv_at hl 1 rfl) ?_
    refine gv_get F hin1 hK hP 0 rfl rfl 9 (by decide) k134 rfl dX1_ownAnswer_41 ?_
    refine lv_iload_n F.1 F.2.1 dX1_ownAnswer_44 rfl (lv_at hl 2 rfl) ?_
    obtain ⟨g6, h⟩ := h
    refine gv_iald (n := 5) (g := (M 9)) F hK hP 9 rfl rfl (by decide) g6 dX1_ownAnswer_45 ?_
    exact ret ((M 9) x1) H locs 46 ls h rfl hS dX1_ownAnswer_46
  by_cases c7 : ((M 4) x2) = 4
  · have h := h.2.1 c7
    refine gv_tableIn (tgt := 47) (off := 34) F g4 c7 (by decide) (by decide) dX1_ownAnswer_13 rfl (by decide) ?_
    refine lv_aload_n F.1 F.2.1 dX1_ownAnswer_47 rfl (lv_at hl 1 rfl) ?_
    refine gv_get F hin1 hK hP 0 rfl rfl 9 (by decide) k134 rfl dX1_ownAnswer_48 ?_
    refine lv_iload_n F.1 F.2.1 dX1_ownAnswer_51 rfl (lv_at hl 2 rfl) ?_
    obtain ⟨g8, h⟩ := h
    refine gv_iald (n := 5) (g := (M 9)) F hK hP 9 rfl rfl (by decide) g8 dX1_ownAnswer_52 ?_
    refine lv_aload_n F.1 F.2.1 dX1_ownAnswer_53 rfl (lv_at hl 1 rfl) ?_
    refine gv_get F hin1 hK hP 0 rfl rfl 4 (by decide) k124 rfl dX1_ownAnswer_54 ?_
    refine lv_iload_n F.1 F.2.1 dX1_ownAnswer_57 rfl (lv_at hl 3 rfl) ?_
    obtain ⟨g9, h⟩ := h
    refine gv_iald (n := 8) (g := (M 5)) F hK hP 5 rfl rfl (by decide) g9 dX1_ownAnswer_58 ?_
    obtain ⟨g10, h⟩ := h
    obtain ⟨g11, h⟩ := h
    refine gv_icmp_ge (tgt := 71) F g10 g11 dX1_ownAnswer_59 (by decide) (fun c12 => ?_) (fun c12 => ?_)
    · have h := h.1 c12
      refine lv_iload_n F.1 F.2.1 dX1_ownAnswer_71 rfl (lv_at hl 0 rfl) ?_
      exact ret v2 H locs 72 ls h rfl hS dX1_ownAnswer_72
    · have h := h.2 c12
      refine lv_iload_n F.1 F.2.1 dX1_ownAnswer_62 rfl (lv_at hl 0 rfl) ?_
      refine gv_iconst F dX1_ownAnswer_63 ?_
      refine gv_iadd F dX1_ownAnswer_64 ?_
      refine gv_bipush F ⟨by decide, by decide⟩ dX1_ownAnswer_65 ?_
      obtain ⟨g13, h⟩ := h
      refine gv_irem F ⟨g13, by decide, by decide⟩ dX1_ownAnswer_67 ?_
      refine lv_goto (tgt := 72) F.1 F.2.1 dX1_ownAnswer_68 (by decide) ?_
      exact ret ((v2 + 1) % 10) H locs 72 ls h rfl hS dX1_ownAnswer_72
  by_cases c14 : ((M 4) x2) = 5
  · have h := h.2.2.1 c14
    refine gv_tableIn (tgt := 73) (off := 60) F g4 c14 (by decide) (by decide) dX1_ownAnswer_13 rfl (by decide) ?_
    refine lv_iload_n F.1 F.2.1 dX1_ownAnswer_73 rfl (lv_at hl 0 rfl) ?_
    exact ret v2 H locs 74 ls h rfl hS dX1_ownAnswer_74
  have cd : ((M 4) x2) < 3 ∨ 5 < ((M 4) x2) := by omega
  have h := h.2.2.2 cd
  refine gv_tableOut (tgt := 75) F g4 cd dX1_ownAnswer_13 (by decide) ?_
  refine lv_aload_n F.1 F.2.1 dX1_ownAnswer_75 rfl (lv_at hl 1 rfl) ?_
  refine gv_get F hin1 hK hP 0 rfl rfl 8 (by decide) k132 rfl dX1_ownAnswer_76 ?_
  refine lv_iload_n F.1 F.2.1 dX1_ownAnswer_79 rfl (lv_at hl 2 rfl) ?_
  obtain ⟨g15, h⟩ := h
  refine gv_iald (n := 5) (g := (M 8)) F hK hP 8 rfl rfl (by decide) g15 dX1_ownAnswer_80 ?_
  refine lv_aload_n F.1 F.2.1 dX1_ownAnswer_81 rfl (lv_at hl 1 rfl) ?_
  refine gv_get F hin1 hK hP 0 rfl rfl 4 (by decide) k124 rfl dX1_ownAnswer_82 ?_
  refine lv_iload_n F.1 F.2.1 dX1_ownAnswer_85 rfl (lv_at hl 3 rfl) ?_
  obtain ⟨g16, h⟩ := h
  refine gv_iald (n := 8) (g := (M 5)) F hK hP 5 rfl rfl (by decide) g16 dX1_ownAnswer_86 ?_
  obtain ⟨g17, h⟩ := h
  obtain ⟨g18, h⟩ := h
  refine gv_icmp_ge (tgt := 99) F g17 g18 dX1_ownAnswer_87 (by decide) (fun c19 => ?_) (fun c19 => ?_)
  · have h := h.1 c19
    refine lv_iload_n F.1 F.2.1 dX1_ownAnswer_99 rfl (lv_at hl 0 rfl) ?_
    exact ret v2 H locs 100 ls h rfl hS dX1_ownAnswer_100
  · have h := h.2 c19
    refine lv_aload_n F.1 F.2.1 dX1_ownAnswer_90 rfl (lv_at hl 1 rfl) ?_
    refine gv_get F hin1 hK hP 0 rfl rfl 9 (by decide) k134 rfl dX1_ownAnswer_91 ?_
    refine lv_iload_n F.1 F.2.1 dX1_ownAnswer_94 rfl (lv_at hl 2 rfl) ?_
    obtain ⟨g20, h⟩ := h
    refine gv_iald (n := 5) (g := (M 9)) F hK hP 9 rfl rfl (by decide) g20 dX1_ownAnswer_95 ?_
    refine lv_goto (tgt := 100) F.1 F.2.1 dX1_ownAnswer_96 (by decide) ?_
    exact ret ((M 9) x1) H locs 100 ls h rfl hS dX1_ownAnswer_100
abbrev rX1_goOnWith : Room := { frames := 1, cells := 0, slots := 0, locals := 24 }
set_option maxHeartbeats 4000000 in
set_option maxRecDepth 20000 in
theorem c_X1_goOnWith (l : Launch) (D : va_G) (cy : ClassId) (ad : Nat → Nat) (M : MS) (x1 x2 : Int) (Q : MS → Prop) (h : wX1_goOnWith M x1 x2 Q) : MetV l yX1_goOnWith (wT yX1_goOnWith cX1_goOnWith 4 none) rX1_goOnWith D cy [.ref (ad 0), .int (iI x1), .int (iI x2)] (wMu cy ad M) (fun u : MS => wMu cy ad u) (fun u => Q u) := by
  refine gI_V (by decide) (Nat.le_of_ble_eq_true rfl) ?_
  intro p e s m args below meth c A Qg F hK hA ret H locs ls hl hP hD hS
  have F : CallFix p m c cX1_goOnWith 4 s args gT RX1 := F
  have hl : lv_has ls 4 [(0, .ref (ad 0)), (1, .int (iI x1)), (2, .int (iI x2))] := hl
  have L92 : ∀ (y1 : Int) (y2 : Int) (t0 : Int) (M : MS) (H : Heap) (locs : List Loc) (ls : Array Slot), wX1_goOnWith_92 Q y1 y2 t0 M → va_P D vwCl (wMu cy ad M) H → va_D A (wMu cy ad M) → va_S A s.heap H locs → lv_has ls 4 [(0, .ref (ad 0)), (1, .int (iI y1)), (2, .int (iI y2))] → W p l e rX1_goOnWith s m args below meth c H locs 0 0 Qg (F0 m 92 ls [.int (iI t0)]) := by
    intro y1 y2 t0 M H locs ls h hP hD hS hl
    refine lv_istore_n (lv' := [(3, .int (iI t0)), (0, .ref (ad 0)), (1, .int (iI y1)), (2, .int (iI y2))]) F.1 F.2.1 dX1_goOnWith_92 rfl hl (by decide) rfl (fun ls hl => ?_)
    refine lv_aload_n F.1 F.2.1 dX1_goOnWith_93 rfl (lv_at hl 1 rfl) ?_
    refine gv_get F hin1 hK hP 0 rfl rfl 14 (by decide) k143 rfl dX1_goOnWith_94 ?_
    refine lv_iload_n F.1 F.2.1 dX1_goOnWith_97 rfl (lv_at hl 2 rfl) ?_
    refine gv_bipush F ⟨by decide, by decide⟩ dX1_goOnWith_98 ?_
    refine gv_imul F dX1_goOnWith_100 ?_
    refine lv_iload_n F.1 F.2.1 dX1_goOnWith_101 rfl (lv_at hl 3 rfl) ?_
    refine gv_iadd F dX1_goOnWith_102 ?_
    refine lv_iload_n F.1 F.2.1 dX1_goOnWith_103 rfl (lv_at hl 0 rfl) ?_
    obtain ⟨g1, h⟩ := h
    obtain ⟨z2, ez2⟩ : ∃ z : MS, z = st M 14 ((y1 * 8) + y2) t0 := ⟨_, rfl⟩
    have h := h z2 ez2
    refine gv_iast (n := 40) (g := (M 14)) (ws' := wMu cy ad z2) F hK hP hD hS 14 rfl rfl (by decide) g1 (by subst ez2; exact wMu_st 14 (by decide) 40 rfl _ _) dX1_goOnWith_104 (fun H locs hP hD hS => ?_)
    refine lv_aload_n F.1 F.2.1 dX1_goOnWith_105 rfl (lv_at hl 1 rfl) ?_
    refine lv_iload_n F.1 F.2.1 dX1_goOnWith_106 rfl (lv_at hl 2 rfl) ?_
    refine lv_iload_n F.1 F.2.1 dX1_goOnWith_107 rfl (lv_at hl 3 rfl) ?_
    refine lv_iload_n F.1 F.2.1 dX1_goOnWith_108 rfl (lv_at hl 0 rfl) ?_
    refine gv_bipush F ⟨by decide, by decide⟩ dX1_goOnWith_109 ?_
    obtain ⟨g3, h⟩ := h
    refine gv_icmp_ne (tgt := 123) F g3 ⟨by decide, by decide⟩ dX1_goOnWith_111 (by decide) (fun c4 => ?_) (fun c4 => ?_)
    · have h := h.1 c4
      refine lv_aload_n F.1 F.2.1 dX1_goOnWith_123 rfl (lv_at hl 1 rfl) ?_
      refine lv_iload_n F.1 F.2.1 dX1_goOnWith_124 rfl (lv_at hl 0 rfl) ?_
      refine lv_iload_n F.1 F.2.1 dX1_goOnWith_125 rfl (lv_at hl 3 rfl) ?_
      refine gc_VR (As := [.int (iI t0), .int (iI y2)]) F hK hA hP hS hP (c_X1_answerOf l D cy ad z2 t0 y2 _ h) (cwV 2 F.2.2.2.2 (gG_V k468 k469 k470 k62 k471) rfl rfl rfl hd_X1_answerOf ⟨Nat.le_of_ble_eq_true rfl, Nat.le_of_ble_eq_true rfl⟩) rfl rfl dX1_goOnWith_126 rfl rfl hl.1 (Nat.le_of_ble_eq_true rfl) ⟨Nat.le_of_ble_eq_true rfl, Nat.le_of_ble_eq_true rfl⟩ (fun u5 H locs h hP hS => ?_)
      refine gc_VV (As := [.int (iI y1), .int (iI y2), .int (iI u5)]) (wn := fun u : MS => wMu cy ad u) F hK hA hP hD hS hP hD (fun u H1 _ h1 h2 => ⟨h1, h2⟩) (c_X1_fill l D cy ad z2 y1 y2 u5 _ h) (cwV 3 F.2.2.2.2 (gG_V k472 k424 k425 k62 k426) rfl rfl rfl hd_X1_fill ⟨Nat.le_of_ble_eq_true rfl, Nat.le_of_ble_eq_true rfl⟩) rfl rfl dX1_goOnWith_129 rfl rfl hl.1 (Nat.le_of_ble_eq_true rfl) ⟨Nat.le_of_ble_eq_true rfl, Nat.le_of_ble_eq_true rfl⟩ (fun z6 H locs h hP hD hS => ?_)
      try dsimp only at h hP hD
      exact ret z6 H locs 132 ls h hP hD hS dX1_goOnWith_132
    · have h := h.2 c4
      refine lv_aload_n F.1 F.2.1 dX1_goOnWith_114 rfl (lv_at hl 1 rfl) ?_
      refine lv_iload_n F.1 F.2.1 dX1_goOnWith_115 rfl (lv_at hl 2 rfl) ?_
      refine lv_iload_n F.1 F.2.1 dX1_goOnWith_116 rfl (lv_at hl 3 rfl) ?_
      refine gc_VR (As := [.int (iI y1), .int (iI y2)]) F hK hA hP hS hP (c_X1_ownAnswer l D cy ad z2 y1 y2 _ h) (cwV 2 F.2.2.2.2 (gG_V k464 k466 k17 k62 k467) rfl rfl rfl hd_X1_ownAnswer ⟨Nat.le_of_ble_eq_true rfl, Nat.le_of_ble_eq_true rfl⟩) rfl rfl dX1_goOnWith_117 rfl rfl hl.1 (Nat.le_of_ble_eq_true rfl) ⟨Nat.le_of_ble_eq_true rfl, Nat.le_of_ble_eq_true rfl⟩ (fun u7 H locs h hP hS => ?_)
      refine lv_goto (tgt := 129) F.1 F.2.1 dX1_goOnWith_120 (by decide) ?_
      refine gc_VV (As := [.int (iI y1), .int (iI y2), .int (iI u7)]) (wn := fun u : MS => wMu cy ad u) F hK hA hP hD hS hP hD (fun u H1 _ h1 h2 => ⟨h1, h2⟩) (c_X1_fill l D cy ad z2 y1 y2 u7 _ h) (cwV 3 F.2.2.2.2 (gG_V k472 k424 k425 k62 k426) rfl rfl rfl hd_X1_fill ⟨Nat.le_of_ble_eq_true rfl, Nat.le_of_ble_eq_true rfl⟩) rfl rfl dX1_goOnWith_129 rfl rfl hl.1 (Nat.le_of_ble_eq_true rfl) ⟨Nat.le_of_ble_eq_true rfl, Nat.le_of_ble_eq_true rfl⟩ (fun z8 H locs h hP hD hS => ?_)
      try dsimp only at h hP hD
      exact ret z8 H locs 132 ls h hP hD hS dX1_goOnWith_132
  refine lv_aload_n F.1 F.2.1 dX1_goOnWith_0 rfl (lv_at hl 0 rfl) ?_
  refine gv_get F hin1 hK hP 0 rfl rfl 11 (by decide) k138 rfl dX1_goOnWith_1 ?_
  refine lv_iload_n F.1 F.2.1 dX1_goOnWith_4 rfl (lv_at hl 1 rfl) ?_
  obtain ⟨g9, h⟩ := h
  refine gv_iald (n := 5) (g := (M 11)) F hK hP 11 rfl rfl (by decide) g9 dX1_goOnWith_5 ?_
  refine lv_aload_n F.1 F.2.1 dX1_goOnWith_6 rfl (lv_at hl 0 rfl) ?_
  refine gv_get F hin1 hK hP 0 rfl rfl 5 (by decide) k126 rfl dX1_goOnWith_7 ?_
  refine lv_iload_n F.1 F.2.1 dX1_goOnWith_10 rfl (lv_at hl 2 rfl) ?_
  obtain ⟨g10, h⟩ := h
  refine gv_iald (n := 8) (g := (M 6)) F hK hP 6 rfl rfl (by decide) g10 dX1_goOnWith_11 ?_
  obtain ⟨g11, h⟩ := h
  obtain ⟨g12, h⟩ := h
  refine gv_icmp_eq (tgt := 40) F g11 g12 dX1_goOnWith_12 (by decide) (fun c13 => ?_) (fun c13 => ?_)
  · have h := h.1 c13
    refine lv_aload_n F.1 F.2.1 dX1_goOnWith_40 rfl (lv_at hl 0 rfl) ?_
    refine gv_get F hin1 hK hP 0 rfl rfl 12 (by decide) k140 rfl dX1_goOnWith_41 ?_
    refine lv_iload_n F.1 F.2.1 dX1_goOnWith_44 rfl (lv_at hl 1 rfl) ?_
    refine lv_dup2_11 F.1 F.2.1 dX1_goOnWith_45 rfl rfl ?_
    obtain ⟨g14, h⟩ := h
    refine gv_iald (n := 5) (g := (M 12)) F hK hP 12 rfl rfl (by decide) g14 dX1_goOnWith_46 ?_
    refine gv_iconst F dX1_goOnWith_47 ?_
    refine gv_iadd F dX1_goOnWith_48 ?_
    obtain ⟨g15, h⟩ := h
    obtain ⟨z16, ez16⟩ : ∃ z : MS, z = st M 12 x1 (((M 12) x1) + 1) := ⟨_, rfl⟩
    have h := h z16 ez16
    refine gv_iast (n := 5) (g := (M 12)) (ws' := wMu cy ad z16) F hK hP hD hS 12 rfl rfl (by decide) g15 (by subst ez16; exact wMu_st 12 (by decide) 5 rfl _ _) dX1_goOnWith_49 (fun H locs hP hD hS => ?_)
    refine lv_aload_n F.1 F.2.1 dX1_goOnWith_50 rfl (lv_at hl 0 rfl) ?_
    refine gv_get F hin1 hK hP 0 rfl rfl 12 (by decide) k140 rfl dX1_goOnWith_51 ?_
    refine lv_iload_n F.1 F.2.1 dX1_goOnWith_54 rfl (lv_at hl 1 rfl) ?_
    obtain ⟨g17, h⟩ := h
    refine gv_iald (n := 5) (g := (z16 12)) F hK hP 12 rfl rfl (by decide) g17 dX1_goOnWith_55 ?_
    refine lv_aload_n F.1 F.2.1 dX1_goOnWith_56 rfl (lv_at hl 0 rfl) ?_
    refine lv_iload_n F.1 F.2.1 dX1_goOnWith_57 rfl (lv_at hl 2 rfl) ?_
    refine gc_VR (As := [.int (iI x2)]) F hK hA hP hS hP (c_X1_minutesFor l D cy ad z16 x2 _ h) (cwV 1 F.2.2.2.2 (gG_V k452 k453 k454 k62 k455) rfl rfl rfl hd_X1_minutesFor ⟨Nat.le_of_ble_eq_true rfl, Nat.le_of_ble_eq_true rfl⟩) rfl rfl dX1_goOnWith_58 rfl rfl hl.1 (Nat.le_of_ble_eq_true rfl) ⟨Nat.le_of_ble_eq_true rfl, Nat.le_of_ble_eq_true rfl⟩ (fun u18 H locs h hP hS => ?_)
    obtain ⟨g19, h⟩ := h
    obtain ⟨g20, h⟩ := h
    refine gv_icmp_ge (tgt := 65) F g19 g20 dX1_goOnWith_61 (by decide) (fun c21 => ?_) (fun c21 => ?_)
    · have h := h.1 c21
      refine lv_aload_n F.1 F.2.1 dX1_goOnWith_65 rfl (lv_at hl 0 rfl) ?_
      refine gv_get F hin1 hK hP 0 rfl rfl 12 (by decide) k140 rfl dX1_goOnWith_66 ?_
      refine lv_iload_n F.1 F.2.1 dX1_goOnWith_69 rfl (lv_at hl 1 rfl) ?_
      refine gv_iconst F dX1_goOnWith_70 ?_
      obtain ⟨g22, h⟩ := h
      obtain ⟨z23, ez23⟩ : ∃ z : MS, z = st z16 12 x1 0 := ⟨_, rfl⟩
      have h := h z23 ez23
      refine gv_iast (n := 5) (g := (z16 12)) (ws' := wMu cy ad z23) F hK hP hD hS 12 rfl rfl (by decide) g22 (by subst ez23; exact wMu_st 12 (by decide) 5 rfl _ _) dX1_goOnWith_71 (fun H locs hP hD hS => ?_)
      refine lv_aload_n F.1 F.2.1 dX1_goOnWith_72 rfl (lv_at hl 0 rfl) ?_
      refine lv_iload_n F.1 F.2.1 dX1_goOnWith_73 rfl (lv_at hl 1 rfl) ?_
      refine lv_iload_n F.1 F.2.1 dX1_goOnWith_74 rfl (lv_at hl 2 rfl) ?_
      refine gc_VR (As := [.int (iI x1), .int (iI x2)]) F hK hA hP hS hP (c_X1_wouldCopy l D cy ad z23 x1 x2 _ h) (cwV 2 F.2.2.2.2 (gG_V k456 k458 k15 k62 k459) rfl rfl rfl hd_X1_wouldCopy ⟨Nat.le_of_ble_eq_true rfl, Nat.le_of_ble_eq_true rfl⟩) rfl rfl dX1_goOnWith_75 rfl rfl hl.1 (Nat.le_of_ble_eq_true rfl) ⟨Nat.le_of_ble_eq_true rfl, Nat.le_of_ble_eq_true rfl⟩ (fun u24 H locs h hP hS => ?_)
      obtain ⟨bu24, h⟩ := h
      refine gv_if_eq (tgt := 90) F (gRb bu24) dX1_goOnWith_78 (by decide) (fun c25 => ?_) (fun c25 => ?_)
      · have h := h.1 c25
        refine gv_bipush F ⟨by decide, by decide⟩ dX1_goOnWith_90 ?_
        exact L92 x1 x2 (-9) z23 H locs ls h hP hD hS (lv_sub hl [0, 1, 2] rfl)
      · have h := h.2 c25
        refine lv_aload_n F.1 F.2.1 dX1_goOnWith_81 rfl (lv_at hl 0 rfl) ?_
        refine lv_iload_n F.1 F.2.1 dX1_goOnWith_82 rfl (lv_at hl 1 rfl) ?_
        refine lv_iload_n F.1 F.2.1 dX1_goOnWith_83 rfl (lv_at hl 2 rfl) ?_
        refine gc_VR (As := [.int (iI x1), .int (iI x2)]) F hK hA hP hS hP (c_X1_sourceFor l D cy ad z23 x1 x2 _ h) (cwV 2 F.2.2.2.2 (gG_V k460 k462 k16 k62 k463) rfl rfl rfl hd_X1_sourceFor ⟨Nat.le_of_ble_eq_true rfl, Nat.le_of_ble_eq_true rfl⟩) rfl rfl dX1_goOnWith_84 rfl rfl hl.1 (Nat.le_of_ble_eq_true rfl) ⟨Nat.le_of_ble_eq_true rfl, Nat.le_of_ble_eq_true rfl⟩ (fun u26 H locs h hP hS => ?_)
        refine lv_goto (tgt := 92) F.1 F.2.1 dX1_goOnWith_87 (by decide) ?_
        exact L92 x1 x2 u26 z23 H locs ls h hP hD hS (lv_sub hl [0, 1, 2] rfl)
    · have h := h.2 c21
      exact ret z16 H locs 64 ls h hP hD hS dX1_goOnWith_64
  · have h := h.2 c13
    refine lv_aload_n F.1 F.2.1 dX1_goOnWith_15 rfl (lv_at hl 0 rfl) ?_
    refine lv_iload_n F.1 F.2.1 dX1_goOnWith_16 rfl (lv_at hl 1 rfl) ?_
    refine lv_aload_n F.1 F.2.1 dX1_goOnWith_17 rfl (lv_at hl 0 rfl) ?_
    refine gv_get F hin1 hK hP 0 rfl rfl 0 (by decide) k116 rfl dX1_goOnWith_18 ?_
    refine lv_aload_n F.1 F.2.1 dX1_goOnWith_21 rfl (lv_at hl 0 rfl) ?_
    refine gv_get F hin1 hK hP 0 rfl rfl 11 (by decide) k138 rfl dX1_goOnWith_22 ?_
    refine lv_iload_n F.1 F.2.1 dX1_goOnWith_25 rfl (lv_at hl 1 rfl) ?_
    obtain ⟨g27, h⟩ := h
    refine gv_iald (n := 5) (g := (M 11)) F hK hP 11 rfl rfl (by decide) g27 dX1_goOnWith_26 ?_
    refine lv_aload_n F.1 F.2.1 dX1_goOnWith_27 rfl (lv_at hl 0 rfl) ?_
    refine gv_get F hin1 hK hP 0 rfl rfl 5 (by decide) k126 rfl dX1_goOnWith_28 ?_
    refine lv_iload_n F.1 F.2.1 dX1_goOnWith_31 rfl (lv_at hl 2 rfl) ?_
    obtain ⟨g28, h⟩ := h
    refine gv_iald (n := 8) (g := (M 6)) F hK hP 6 rfl rfl (by decide) g28 dX1_goOnWith_32 ?_
    refine gc_VR (As := [.int (iI ((M 11) x1)), .int (iI ((M 6) x2))]) F hK hA hP hS (cp_mu_r hP) (c_X2_towards l D cy (fun k => ad (k + 1)) (M 2) (M 3) ((M 11) x1) ((M 6) x2) _ h) (cwV 2 F.2.2.2.2 (gG_V k447 k448 k449 k63 k450) rfl rfl rfl hd_X2_towards ⟨Nat.le_of_ble_eq_true rfl, Nat.le_of_ble_eq_true rfl⟩) rfl rfl dX1_goOnWith_33 rfl rfl hl.1 (Nat.le_of_ble_eq_true rfl) ⟨Nat.le_of_ble_eq_true rfl, Nat.le_of_ble_eq_true rfl⟩ (fun u29 H locs h hP hS => ?_)
    refine gc_VV (As := [.int (iI x1), .int (iI u29)]) (wn := fun u : MS => wMu cy ad u) F hK hA hP hD hS hP hD (fun u H1 _ h1 h2 => ⟨h1, h2⟩) (c_X1_place l D cy ad M x1 u29 _ h) (cwV 2 F.2.2.2.2 (gG_V k451 k412 k413 k62 k414) rfl rfl rfl hd_X1_place ⟨Nat.le_of_ble_eq_true rfl, Nat.le_of_ble_eq_true rfl⟩) rfl rfl dX1_goOnWith_36 rfl rfl hl.1 (Nat.le_of_ble_eq_true rfl) ⟨Nat.le_of_ble_eq_true rfl, Nat.le_of_ble_eq_true rfl⟩ (fun z30 H locs h hP hD hS => ?_)
    try dsimp only at h hP hD
    exact ret z30 H locs 39 ls h hP hD hS dX1_goOnWith_39
abbrev rX1_passMinute : Room := { frames := 2, cells := 0, slots := 0, locals := 47 }
set_option maxHeartbeats 4000000 in
set_option maxRecDepth 20000 in
theorem c_X1_passMinute (l : Launch) (D : va_G) (cy : ClassId) (ad : Nat → Nat) (M : MS) (Q : MS → Prop) (h : wX1_passMinute M Q) : MetV l yX1_passMinute (wT yX1_passMinute cX1_passMinute 3 none) rX1_passMinute D cy [.ref (ad 0)] (wMu cy ad M) (fun u : MS => wMu cy ad u) (fun u => Q u) := by
  refine gI_V (by decide) (Nat.le_of_ble_eq_true rfl) ?_
  intro p e s m args below meth c A Qg F hK hA ret H locs ls hl hP hD hS
  have F : CallFix p m c cX1_passMinute 3 s args gT RX1 := F
  have hl : lv_has ls 3 [(0, .ref (ad 0))] := hl
  have L12 : ∀ (n : Nat) (y1 : Int) (M : MS) (H : Heap) (locs : List Loc) (ls : Array Slot), wX1_passMinute_12 Q n y1 M → va_P D vwCl (wMu cy ad M) H → va_D A (wMu cy ad M) → va_S A s.heap H locs → lv_has ls 3 [(0, .ref (ad 0)), (1, .int (iI y1))] → W p l e rX1_passMinute s m args below meth c H locs 0 0 Qg (F0 m 12 ls []) := by
    intro  n
    induction n with
    | zero => intro _ _ _ _ _ h; exact h.elim
    | succ n ih =>
      intro y1 M H locs ls h hP hD hS hl
      rw [wX1_passMinute_12_s] at h
      refine lv_iload_n F.1 F.2.1 dX1_passMinute_12 rfl (lv_at hl 1 rfl) ?_
      refine lv_aload_n F.1 F.2.1 dX1_passMinute_13 rfl (lv_at hl 0 rfl) ?_
      refine gv_get F hin1 hK hP 0 rfl rfl 7 (by decide) k130 rfl dX1_passMinute_14 ?_
      obtain ⟨g1, h⟩ := h
      obtain ⟨g2, h⟩ := h
      refine gv_icmp_ge (tgt := 44) F g1 g2 dX1_passMinute_17 (by decide) (fun c3 => ?_) (fun c3 => ?_)
      · have h := h.1 c3
        exact ret M H locs 44 ls h hP hD hS dX1_passMinute_44
      · have h := h.2 c3
        refine lv_aload_n F.1 F.2.1 dX1_passMinute_20 rfl (lv_at hl 0 rfl) ?_
        refine lv_iload_n F.1 F.2.1 dX1_passMinute_21 rfl (lv_at hl 1 rfl) ?_
        refine gc_VR (As := [.int (iI y1)]) F hK hA hP hS hP (c_X1_nextQuestion l D cy ad M y1 _ h) (cwV 1 F.2.2.2.2 (gG_V k439 k440 k441 k62 k442) rfl rfl rfl hd_X1_nextQuestion ⟨Nat.le_of_ble_eq_true rfl, Nat.le_of_ble_eq_true rfl⟩) rfl rfl dX1_passMinute_22 rfl rfl hl.1 (Nat.le_of_ble_eq_true rfl) ⟨Nat.le_of_ble_eq_true rfl, Nat.le_of_ble_eq_true rfl⟩ (fun u4 H locs h hP hS => ?_)
        refine lv_istore_n (lv' := [(2, .int (iI u4)), (0, .ref (ad 0)), (1, .int (iI y1))]) F.1 F.2.1 dX1_passMinute_25 rfl hl (by decide) rfl (fun ls hl => ?_)
        refine lv_iload_n F.1 F.2.1 dX1_passMinute_26 rfl (lv_at hl 0 rfl) ?_
        refine gv_bipush F ⟨by decide, by decide⟩ dX1_passMinute_27 ?_
        obtain ⟨g5, h⟩ := h
        refine gv_icmp_eq (tgt := 38) F g5 ⟨by decide, by decide⟩ dX1_passMinute_29 (by decide) (fun c6 => ?_) (fun c6 => ?_)
        · have h := h.1 c6
          obtain ⟨v7, ev7⟩ : ∃ z : Int, z = y1 + 1 := ⟨_, rfl⟩
          have h := h v7 ev7
          refine gv_iinc (lv' := [(1, .int (iI v7)), (2, .int (iI u4)), (0, .ref (ad 0))]) F dX1_passMinute_38 hl (k := 2) rfl ev7 (by decide) rfl (fun ls hl => ?_)
          refine lv_goto (tgt := 12) F.1 F.2.1 dX1_passMinute_41 (by decide) ?_
          exact ih v7 M H locs ls h hP hD hS (lv_sub hl [2, 0] rfl)
        · have h := h.2 c6
          refine lv_aload_n F.1 F.2.1 dX1_passMinute_32 rfl (lv_at hl 1 rfl) ?_
          refine lv_iload_n F.1 F.2.1 dX1_passMinute_33 rfl (lv_at hl 2 rfl) ?_
          refine lv_iload_n F.1 F.2.1 dX1_passMinute_34 rfl (lv_at hl 0 rfl) ?_
          refine gc_VV (As := [.int (iI y1), .int (iI u4)]) (wn := fun u : MS => wMu cy ad u) F hK hA hP hD hS hP hD (fun u H1 _ h1 h2 => ⟨h1, h2⟩) (c_X1_goOnWith l D cy ad M y1 u4 _ h) (cwV 2 F.2.2.2.2 (gG_V k443 k445 k14 k62 k446) rfl rfl rfl hd_X1_goOnWith ⟨Nat.le_of_ble_eq_true rfl, Nat.le_of_ble_eq_true rfl⟩) rfl rfl dX1_passMinute_35 rfl rfl hl.1 (Nat.le_of_ble_eq_true rfl) ⟨Nat.le_of_ble_eq_true rfl, Nat.le_of_ble_eq_true rfl⟩ (fun z8 H locs h hP hD hS => ?_)
          try dsimp only at h hP hD
          obtain ⟨v9, ev9⟩ : ∃ z : Int, z = y1 + 1 := ⟨_, rfl⟩
          have h := h v9 ev9
          refine gv_iinc (lv' := [(1, .int (iI v9)), (2, .int (iI u4)), (0, .ref (ad 0))]) F dX1_passMinute_38 hl (k := 2) rfl ev9 (by decide) rfl (fun ls hl => ?_)
          refine lv_goto (tgt := 12) F.1 F.2.1 dX1_passMinute_41 (by decide) ?_
          exact ih v9 z8 H locs ls h hP hD hS (lv_sub hl [2, 0] rfl)
  refine lv_aload_n F.1 F.2.1 dX1_passMinute_0 rfl (lv_at hl 0 rfl) ?_
  refine lv_dup F.1 F.2.1 dX1_passMinute_1 rfl ?_
  refine gv_get F hin1 hK hP 0 rfl rfl 1 (by decide) k118 rfl dX1_passMinute_2 ?_
  refine gv_iconst F dX1_passMinute_5 ?_
  refine gv_iadd F dX1_passMinute_6 ?_
  obtain ⟨z10, ez10⟩ : ∃ z : MS, z = st M 0 1 ((M 0 1) + 1) := ⟨_, rfl⟩
  have h := h z10 ez10
  refine gv_put (ws' := wMu cy ad z10) F hin1 tyX1 tyX1_ok nmX1 hK hP hD hS 0 rfl rfl 1 (by decide) k118 rfl (ty := .int) (by decide +kernel) rfl rfl (Nat.le_of_ble_eq_true rfl) (by subst ez10; exact wMu_o1 rfl) dX1_passMinute_7 (fun H locs hP hD hS => ?_)
  refine gv_iconst F dX1_passMinute_10 ?_
  refine lv_istore_n (lv' := [(1, .int (iI 0)), (0, .ref (ad 0))]) F.1 F.2.1 dX1_passMinute_11 rfl hl (by decide) rfl (fun ls hl => ?_)
  obtain ⟨n11, h⟩ := h
  exact L12 n11 0 z10 H locs ls h hP hD hS (lv_sub hl [1, 0] rfl)
abbrev rX1_passMinutes : Room := { frames := 3, cells := 0, slots := 0, locals := 69 }
set_option maxHeartbeats 4000000 in
set_option maxRecDepth 20000 in
theorem c_X1_passMinutes (l : Launch) (D : va_G) (cy : ClassId) (ad : Nat → Nat) (M : MS) (x1 : Int) (Q : MS → Prop) (h : wX1_passMinutes M x1 Q) : MetV l yX1_passMinutes (wT yX1_passMinutes cX1_passMinutes 3 none) rX1_passMinutes D cy [.ref (ad 0), .int (iI x1)] (wMu cy ad M) (fun u : MS => wMu cy ad u) (fun u => Q u) := by
  refine gI_V (by decide) (Nat.le_of_ble_eq_true rfl) ?_
  intro p e s m args below meth c A Qg F hK hA ret H locs ls hl hP hD hS
  have F : CallFix p m c cX1_passMinutes 3 s args gT RX1 := F
  have hl : lv_has ls 3 [(0, .ref (ad 0)), (1, .int (iI x1))] := hl
  have L2 : ∀ (n : Nat) (y1 : Int) (y2 : Int) (M : MS) (H : Heap) (locs : List Loc) (ls : Array Slot), wX1_passMinutes_2 Q n y1 y2 M → va_P D vwCl (wMu cy ad M) H → va_D A (wMu cy ad M) → va_S A s.heap H locs → lv_has ls 3 [(0, .ref (ad 0)), (1, .int (iI y1)), (2, .int (iI y2))] → W p l e rX1_passMinutes s m args below meth c H locs 0 0 Qg (F0 m 2 ls []) := by
    intro  n
    induction n with
    | zero => intro _ _ _ _ _ _ h; exact h.elim
    | succ n ih =>
      intro y1 y2 M H locs ls h hP hD hS hl
      rw [wX1_passMinutes_2_s] at h
      refine lv_iload_n F.1 F.2.1 dX1_passMinutes_2 rfl (lv_at hl 2 rfl) ?_
      refine lv_iload_n F.1 F.2.1 dX1_passMinutes_3 rfl (lv_at hl 1 rfl) ?_
      obtain ⟨g1, h⟩ := h
      obtain ⟨g2, h⟩ := h
      refine gv_icmp_ge (tgt := 17) F g1 g2 dX1_passMinutes_4 (by decide) (fun c3 => ?_) (fun c3 => ?_)
      · have h := h.1 c3
        exact ret M H locs 17 ls h hP hD hS dX1_passMinutes_17
      · have h := h.2 c3
        refine lv_aload_n F.1 F.2.1 dX1_passMinutes_7 rfl (lv_at hl 0 rfl) ?_
        refine gc_VV (As := []) (wn := fun u : MS => wMu cy ad u) F hK hA hP hD hS hP hD (fun u H1 _ h1 h2 => ⟨h1, h2⟩) (c_X1_passMinute l D cy ad M _ h) (cwV 0 F.2.2.2.2 (gG_V k435 k436 k437 k62 k438) rfl rfl rfl hd_X1_passMinute ⟨Nat.le_of_ble_eq_true rfl, Nat.le_of_ble_eq_true rfl⟩) rfl rfl dX1_passMinutes_8 rfl rfl hl.1 (Nat.le_of_ble_eq_true rfl) ⟨Nat.le_of_ble_eq_true rfl, Nat.le_of_ble_eq_true rfl⟩ (fun z4 H locs h hP hD hS => ?_)
        try dsimp only at h hP hD
        obtain ⟨v5, ev5⟩ : ∃ z : Int, z = y2 + 1 := ⟨_, rfl⟩
        have h := h v5 ev5
        refine gv_iinc (lv' := [(2, .int (iI v5)), (0, .ref (ad 0)), (1, .int (iI y1))]) F dX1_passMinutes_11 hl (k := 2) rfl ev5 (by decide) rfl (fun ls hl => ?_)
        refine lv_goto (tgt := 2) F.1 F.2.1 dX1_passMinutes_14 (by decide) ?_
        exact ih y1 v5 z4 H locs ls h hP hD hS (lv_sub hl [1, 2, 0] rfl)
  refine gv_iconst F dX1_passMinutes_0 ?_
  refine lv_istore_n (lv' := [(2, .int (iI 0)), (0, .ref (ad 0)), (1, .int (iI x1))]) F.1 F.2.1 dX1_passMinutes_1 rfl hl (by decide) rfl (fun ls hl => ?_)
  obtain ⟨n6, h⟩ := h
  exact L2 n6 x1 0 M H locs ls h hP hD hS (lv_sub hl [1, 2, 0] rfl)
abbrev rX1_answersOf : Room := { frames := 1, cells := 0, slots := 0, locals := 22 }
set_option maxHeartbeats 4000000 in
set_option maxRecDepth 20000 in
theorem c_X1_answersOf (l : Launch) (D : va_G) (cy : ClassId) (ad : Nat → Nat) (M : MS) (x1 : Int) (Q : Int → Prop) (h : wX1_answersOf M x1 Q) : MetR l yX1_answersOf (wT yX1_answersOf cX1_answersOf 4 (some .int)) rX1_answersOf D cy [.ref (ad 0), .int (iI x1)] (wMu cy ad M) Q := by
  refine gI_R (by decide) (Nat.le_of_ble_eq_true rfl) ?_
  intro p e s m args below meth c A Qg F hK hA ret H locs ls hl hP hS
  have F : CallFix p m c cX1_answersOf 4 s args gT RX1 := F
  have hl : lv_has ls 4 [(0, .ref (ad 0)), (1, .int (iI x1))] := hl
  have L4 : ∀ (n : Nat) (y1 : Int) (y2 : Int) (y3 : Int) (H : Heap) (locs : List Loc) (ls : Array Slot), wX1_answersOf_4 M Q n y1 y2 y3 → va_P D vwCl (wMu cy ad M) H → va_S A s.heap H locs → lv_has ls 4 [(0, .ref (ad 0)), (1, .int (iI y1)), (2, .int (iI y2)), (3, .int (iI y3))] → W p l e rX1_answersOf s m args below meth c H locs 0 0 Qg (F0 m 4 ls []) := by
    intro  n
    induction n with
    | zero => intro _ _ _ _ _ _ h; exact h.elim
    | succ n ih =>
      intro y1 y2 y3 H locs ls h hP hS hl
      rw [wX1_answersOf_4_s] at h
      refine lv_iload_n F.1 F.2.1 dX1_answersOf_4 rfl (lv_at hl 3 rfl) ?_
      refine lv_aload_n F.1 F.2.1 dX1_answersOf_5 rfl (lv_at hl 0 rfl) ?_
      refine gv_get F hin1 hK hP 0 rfl rfl 2 (by decide) k120 rfl dX1_answersOf_6 ?_
      obtain ⟨g1, h⟩ := h
      obtain ⟨g2, h⟩ := h
      refine gv_icmp_ge (tgt := 37) F g1 g2 dX1_answersOf_9 (by decide) (fun c3 => ?_) (fun c3 => ?_)
      · have h := h.1 c3
        refine lv_iload_n F.1 F.2.1 dX1_answersOf_37 rfl (lv_at hl 2 rfl) ?_
        exact ret y2 H locs 38 ls h rfl hS dX1_answersOf_38
      · have h := h.2 c3
        refine lv_iload_n F.1 F.2.1 dX1_answersOf_12 rfl (lv_at hl 2 rfl) ?_
        refine lv_aload_n F.1 F.2.1 dX1_answersOf_13 rfl (lv_at hl 0 rfl) ?_
        refine lv_iload_n F.1 F.2.1 dX1_answersOf_14 rfl (lv_at hl 1 rfl) ?_
        refine lv_iload_n F.1 F.2.1 dX1_answersOf_15 rfl (lv_at hl 3 rfl) ?_
        refine gc_VR (As := [.int (iI y1), .int (iI y3)]) F hK hA hP hS hP (c_X1_answerOf l D cy ad M y1 y3 _ h) (cwV 2 F.2.2.2.2 (gG_V k468 k469 k470 k62 k471) rfl rfl rfl hd_X1_answerOf ⟨Nat.le_of_ble_eq_true rfl, Nat.le_of_ble_eq_true rfl⟩) rfl rfl dX1_answersOf_16 rfl rfl hl.1 (Nat.le_of_ble_eq_true rfl) ⟨Nat.le_of_ble_eq_true rfl, Nat.le_of_ble_eq_true rfl⟩ (fun u4 H locs h hP hS => ?_)
        refine gv_bipush F ⟨by decide, by decide⟩ dX1_answersOf_19 ?_
        obtain ⟨g5, h⟩ := h
        refine gv_icmp_ne (tgt := 28) F g5 ⟨by decide, by decide⟩ dX1_answersOf_21 (by decide) (fun c6 => ?_) (fun c6 => ?_)
        · have h := h.1 c6
          refine gv_iconst F dX1_answersOf_28 ?_
          refine gv_iadd F dX1_answersOf_29 ?_
          refine gv_name (fun v7 ev7 => ?_)
          have h := h v7 ev7
          refine lv_istore_n (lv' := [(2, .int (iI v7)), (0, .ref (ad 0)), (1, .int (iI y1)), (3, .int (iI y3))]) F.1 F.2.1 dX1_answersOf_30 rfl hl (by decide) rfl (fun ls hl => ?_)
          obtain ⟨v8, ev8⟩ : ∃ z : Int, z = y3 + 1 := ⟨_, rfl⟩
          have h := h v8 ev8
          refine gv_iinc (lv' := [(3, .int (iI v8)), (2, .int (iI v7)), (0, .ref (ad 0)), (1, .int (iI y1))]) F dX1_answersOf_31 hl (k := 3) rfl ev8 (by decide) rfl (fun ls hl => ?_)
          refine lv_goto (tgt := 4) F.1 F.2.1 dX1_answersOf_34 (by decide) ?_
          exact ih y1 v7 v8 H locs ls h hP hS (lv_sub hl [2, 3, 1, 0] rfl)
        · have h := h.2 c6
          refine gv_iconst F dX1_answersOf_24 ?_
          refine lv_goto (tgt := 29) F.1 F.2.1 dX1_answersOf_25 (by decide) ?_
          refine gv_iadd F dX1_answersOf_29 ?_
          refine gv_name (fun v9 ev9 => ?_)
          have h := h v9 ev9
          refine lv_istore_n (lv' := [(2, .int (iI v9)), (0, .ref (ad 0)), (1, .int (iI y1)), (3, .int (iI y3))]) F.1 F.2.1 dX1_answersOf_30 rfl hl (by decide) rfl (fun ls hl => ?_)
          obtain ⟨v10, ev10⟩ : ∃ z : Int, z = y3 + 1 := ⟨_, rfl⟩
          have h := h v10 ev10
          refine gv_iinc (lv' := [(3, .int (iI v10)), (2, .int (iI v9)), (0, .ref (ad 0)), (1, .int (iI y1))]) F dX1_answersOf_31 hl (k := 3) rfl ev10 (by decide) rfl (fun ls hl => ?_)
          refine lv_goto (tgt := 4) F.1 F.2.1 dX1_answersOf_34 (by decide) ?_
          exact ih y1 v9 v10 H locs ls h hP hS (lv_sub hl [2, 3, 1, 0] rfl)
  refine gv_iconst F dX1_answersOf_0 ?_
  refine lv_istore_n (lv' := [(2, .int (iI 0)), (0, .ref (ad 0)), (1, .int (iI x1))]) F.1 F.2.1 dX1_answersOf_1 rfl hl (by decide) rfl (fun ls hl => ?_)
  refine gv_iconst F dX1_answersOf_2 ?_
  refine lv_istore_n (lv' := [(3, .int (iI 0)), (2, .int (iI 0)), (0, .ref (ad 0)), (1, .int (iI x1))]) F.1 F.2.1 dX1_answersOf_3 rfl hl (by decide) rfl (fun ls hl => ?_)
  obtain ⟨n11, h⟩ := h
  exact L4 n11 x1 0 0 H locs ls h hP hS (lv_sub hl [2, 3, 1, 0] rfl)
abbrev rX1_rightOf : Room := { frames := 1, cells := 0, slots := 0, locals := 22 }
set_option maxHeartbeats 4000000 in
set_option maxRecDepth 20000 in
theorem c_X1_rightOf (l : Launch) (D : va_G) (cy : ClassId) (ad : Nat → Nat) (M : MS) (x1 : Int) (Q : Int → Prop) (h : wX1_rightOf M x1 Q) : MetR l yX1_rightOf (wT yX1_rightOf cX1_rightOf 4 (some .int)) rX1_rightOf D cy [.ref (ad 0), .int (iI x1)] (wMu cy ad M) Q := by
  refine gI_R (by decide) (Nat.le_of_ble_eq_true rfl) ?_
  intro p e s m args below meth c A Qg F hK hA ret H locs ls hl hP hS
  have F : CallFix p m c cX1_rightOf 4 s args gT RX1 := F
  have hl : lv_has ls 4 [(0, .ref (ad 0)), (1, .int (iI x1))] := hl
  have L4 : ∀ (n : Nat) (y1 : Int) (y2 : Int) (y3 : Int) (H : Heap) (locs : List Loc) (ls : Array Slot), wX1_rightOf_4 M Q n y1 y2 y3 → va_P D vwCl (wMu cy ad M) H → va_S A s.heap H locs → lv_has ls 4 [(0, .ref (ad 0)), (1, .int (iI y1)), (2, .int (iI y2)), (3, .int (iI y3))] → W p l e rX1_rightOf s m args below meth c H locs 0 0 Qg (F0 m 4 ls []) := by
    intro  n
    induction n with
    | zero => intro _ _ _ _ _ _ h; exact h.elim
    | succ n ih =>
      intro y1 y2 y3 H locs ls h hP hS hl
      rw [wX1_rightOf_4_s] at h
      refine lv_iload_n F.1 F.2.1 dX1_rightOf_4 rfl (lv_at hl 3 rfl) ?_
      refine lv_aload_n F.1 F.2.1 dX1_rightOf_5 rfl (lv_at hl 0 rfl) ?_
      refine gv_get F hin1 hK hP 0 rfl rfl 2 (by decide) k120 rfl dX1_rightOf_6 ?_
      obtain ⟨g1, h⟩ := h
      obtain ⟨g2, h⟩ := h
      refine gv_icmp_ge (tgt := 41) F g1 g2 dX1_rightOf_9 (by decide) (fun c3 => ?_) (fun c3 => ?_)
      · have h := h.1 c3
        refine lv_iload_n F.1 F.2.1 dX1_rightOf_41 rfl (lv_at hl 2 rfl) ?_
        exact ret y2 H locs 42 ls h rfl hS dX1_rightOf_42
      · have h := h.2 c3
        refine lv_iload_n F.1 F.2.1 dX1_rightOf_12 rfl (lv_at hl 2 rfl) ?_
        refine lv_aload_n F.1 F.2.1 dX1_rightOf_13 rfl (lv_at hl 0 rfl) ?_
        refine lv_iload_n F.1 F.2.1 dX1_rightOf_14 rfl (lv_at hl 1 rfl) ?_
        refine lv_iload_n F.1 F.2.1 dX1_rightOf_15 rfl (lv_at hl 3 rfl) ?_
        refine gc_VR (As := [.int (iI y1), .int (iI y3)]) F hK hA hP hS hP (c_X1_answerOf l D cy ad M y1 y3 _ h) (cwV 2 F.2.2.2.2 (gG_V k468 k469 k470 k62 k471) rfl rfl rfl hd_X1_answerOf ⟨Nat.le_of_ble_eq_true rfl, Nat.le_of_ble_eq_true rfl⟩) rfl rfl dX1_rightOf_16 rfl rfl hl.1 (Nat.le_of_ble_eq_true rfl) ⟨Nat.le_of_ble_eq_true rfl, Nat.le_of_ble_eq_true rfl⟩ (fun u4 H locs h hP hS => ?_)
        refine lv_aload_n F.1 F.2.1 dX1_rightOf_19 rfl (lv_at hl 0 rfl) ?_
        refine gv_get F hin1 hK hP 0 rfl rfl 6 (by decide) k128 rfl dX1_rightOf_20 ?_
        refine lv_iload_n F.1 F.2.1 dX1_rightOf_23 rfl (lv_at hl 3 rfl) ?_
        obtain ⟨g5, h⟩ := h
        refine gv_iald (n := 8) (g := (M 7)) F hK hP 7 rfl rfl (by decide) g5 dX1_rightOf_24 ?_
        obtain ⟨g6, h⟩ := h
        obtain ⟨g7, h⟩ := h
        refine gv_icmp_ne (tgt := 32) F g6 g7 dX1_rightOf_25 (by decide) (fun c8 => ?_) (fun c8 => ?_)
        · have h := h.1 c8
          refine gv_iconst F dX1_rightOf_32 ?_
          refine gv_iadd F dX1_rightOf_33 ?_
          refine gv_name (fun v9 ev9 => ?_)
          have h := h v9 ev9
          refine lv_istore_n (lv' := [(2, .int (iI v9)), (0, .ref (ad 0)), (1, .int (iI y1)), (3, .int (iI y3))]) F.1 F.2.1 dX1_rightOf_34 rfl hl (by decide) rfl (fun ls hl => ?_)
          obtain ⟨v10, ev10⟩ : ∃ z : Int, z = y3 + 1 := ⟨_, rfl⟩
          have h := h v10 ev10
          refine gv_iinc (lv' := [(3, .int (iI v10)), (2, .int (iI v9)), (0, .ref (ad 0)), (1, .int (iI y1))]) F dX1_rightOf_35 hl (k := 3) rfl ev10 (by decide) rfl (fun ls hl => ?_)
          refine lv_goto (tgt := 4) F.1 F.2.1 dX1_rightOf_38 (by decide) ?_
          exact ih y1 v9 v10 H locs ls h hP hS (lv_sub hl [2, 3, 1, 0] rfl)
        · have h := h.2 c8
          refine gv_iconst F dX1_rightOf_28 ?_
          refine lv_goto (tgt := 33) F.1 F.2.1 dX1_rightOf_29 (by decide) ?_
          refine gv_iadd F dX1_rightOf_33 ?_
          refine gv_name (fun v11 ev11 => ?_)
          have h := h v11 ev11
          refine lv_istore_n (lv' := [(2, .int (iI v11)), (0, .ref (ad 0)), (1, .int (iI y1)), (3, .int (iI y3))]) F.1 F.2.1 dX1_rightOf_34 rfl hl (by decide) rfl (fun ls hl => ?_)
          obtain ⟨v12, ev12⟩ : ∃ z : Int, z = y3 + 1 := ⟨_, rfl⟩
          have h := h v12 ev12
          refine gv_iinc (lv' := [(3, .int (iI v12)), (2, .int (iI v11)), (0, .ref (ad 0)), (1, .int (iI y1))]) F dX1_rightOf_35 hl (k := 3) rfl ev12 (by decide) rfl (fun ls hl => ?_)
          refine lv_goto (tgt := 4) F.1 F.2.1 dX1_rightOf_38 (by decide) ?_
          exact ih y1 v11 v12 H locs ls h hP hS (lv_sub hl [2, 3, 1, 0] rfl)
  refine gv_iconst F dX1_rightOf_0 ?_
  refine lv_istore_n (lv' := [(2, .int (iI 0)), (0, .ref (ad 0)), (1, .int (iI x1))]) F.1 F.2.1 dX1_rightOf_1 rfl hl (by decide) rfl (fun ls hl => ?_)
  refine gv_iconst F dX1_rightOf_2 ?_
  refine lv_istore_n (lv' := [(3, .int (iI 0)), (2, .int (iI 0)), (0, .ref (ad 0)), (1, .int (iI x1))]) F.1 F.2.1 dX1_rightOf_3 rfl hl (by decide) rfl (fun ls hl => ?_)
  obtain ⟨n13, h⟩ := h
  exact L4 n13 x1 0 0 H locs ls h hP hS (lv_sub hl [2, 3, 1, 0] rfl)
abbrev rX1_copiedBy : Room := { frames := 1, cells := 0, slots := 0, locals := 22 }
set_option maxHeartbeats 4000000 in
set_option maxRecDepth 20000 in
theorem c_X1_copiedBy (l : Launch) (D : va_G) (cy : ClassId) (ad : Nat → Nat) (M : MS) (x1 : Int) (Q : Int → Prop) (h : wX1_copiedBy M x1 Q) : MetR l yX1_copiedBy (wT yX1_copiedBy cX1_copiedBy 4 (some .int)) rX1_copiedBy D cy [.ref (ad 0), .int (iI x1)] (wMu cy ad M) Q := by
  refine gI_R (by decide) (Nat.le_of_ble_eq_true rfl) ?_
  intro p e s m args below meth c A Qg F hK hA ret H locs ls hl hP hS
  have F : CallFix p m c cX1_copiedBy 4 s args gT RX1 := F
  have hl : lv_has ls 4 [(0, .ref (ad 0)), (1, .int (iI x1))] := hl
  have L4 : ∀ (n : Nat) (y1 : Int) (y2 : Int) (y3 : Int) (H : Heap) (locs : List Loc) (ls : Array Slot), wX1_copiedBy_4 M Q n y1 y2 y3 → va_P D vwCl (wMu cy ad M) H → va_S A s.heap H locs → lv_has ls 4 [(0, .ref (ad 0)), (1, .int (iI y1)), (2, .int (iI y2)), (3, .int (iI y3))] → W p l e rX1_copiedBy s m args below meth c H locs 0 0 Qg (F0 m 4 ls []) := by
    intro  n
    induction n with
    | zero => intro _ _ _ _ _ _ h; exact h.elim
    | succ n ih =>
      intro y1 y2 y3 H locs ls h hP hS hl
      rw [wX1_copiedBy_4_s] at h
      refine lv_iload_n F.1 F.2.1 dX1_copiedBy_4 rfl (lv_at hl 3 rfl) ?_
      refine lv_aload_n F.1 F.2.1 dX1_copiedBy_5 rfl (lv_at hl 0 rfl) ?_
      refine gv_get F hin1 hK hP 0 rfl rfl 2 (by decide) k120 rfl dX1_copiedBy_6 ?_
      obtain ⟨g1, h⟩ := h
      obtain ⟨g2, h⟩ := h
      refine gv_icmp_ge (tgt := 37) F g1 g2 dX1_copiedBy_9 (by decide) (fun c3 => ?_) (fun c3 => ?_)
      · have h := h.1 c3
        refine lv_iload_n F.1 F.2.1 dX1_copiedBy_37 rfl (lv_at hl 2 rfl) ?_
        exact ret y2 H locs 38 ls h rfl hS dX1_copiedBy_38
      · have h := h.2 c3
        refine lv_iload_n F.1 F.2.1 dX1_copiedBy_12 rfl (lv_at hl 2 rfl) ?_
        refine lv_aload_n F.1 F.2.1 dX1_copiedBy_13 rfl (lv_at hl 0 rfl) ?_
        refine lv_iload_n F.1 F.2.1 dX1_copiedBy_14 rfl (lv_at hl 1 rfl) ?_
        refine lv_iload_n F.1 F.2.1 dX1_copiedBy_15 rfl (lv_at hl 3 rfl) ?_
        refine gc_VR (As := [.int (iI y1), .int (iI y3)]) F hK hA hP hS hP (c_X1_sourceOf l D cy ad M y1 y3 _ h) (cwV 2 F.2.2.2.2 (gG_V k556 k557 k558 k62 k559) rfl rfl rfl hd_X1_sourceOf ⟨Nat.le_of_ble_eq_true rfl, Nat.le_of_ble_eq_true rfl⟩) rfl rfl dX1_copiedBy_16 rfl rfl hl.1 (Nat.le_of_ble_eq_true rfl) ⟨Nat.le_of_ble_eq_true rfl, Nat.le_of_ble_eq_true rfl⟩ (fun u4 H locs h hP hS => ?_)
        refine gv_bipush F ⟨by decide, by decide⟩ dX1_copiedBy_19 ?_
        obtain ⟨g5, h⟩ := h
        refine gv_icmp_ne (tgt := 28) F g5 ⟨by decide, by decide⟩ dX1_copiedBy_21 (by decide) (fun c6 => ?_) (fun c6 => ?_)
        · have h := h.1 c6
          refine gv_iconst F dX1_copiedBy_28 ?_
          refine gv_iadd F dX1_copiedBy_29 ?_
          refine gv_name (fun v7 ev7 => ?_)
          have h := h v7 ev7
          refine lv_istore_n (lv' := [(2, .int (iI v7)), (0, .ref (ad 0)), (1, .int (iI y1)), (3, .int (iI y3))]) F.1 F.2.1 dX1_copiedBy_30 rfl hl (by decide) rfl (fun ls hl => ?_)
          obtain ⟨v8, ev8⟩ : ∃ z : Int, z = y3 + 1 := ⟨_, rfl⟩
          have h := h v8 ev8
          refine gv_iinc (lv' := [(3, .int (iI v8)), (2, .int (iI v7)), (0, .ref (ad 0)), (1, .int (iI y1))]) F dX1_copiedBy_31 hl (k := 3) rfl ev8 (by decide) rfl (fun ls hl => ?_)
          refine lv_goto (tgt := 4) F.1 F.2.1 dX1_copiedBy_34 (by decide) ?_
          exact ih y1 v7 v8 H locs ls h hP hS (lv_sub hl [2, 3, 1, 0] rfl)
        · have h := h.2 c6
          refine gv_iconst F dX1_copiedBy_24 ?_
          refine lv_goto (tgt := 29) F.1 F.2.1 dX1_copiedBy_25 (by decide) ?_
          refine gv_iadd F dX1_copiedBy_29 ?_
          refine gv_name (fun v9 ev9 => ?_)
          have h := h v9 ev9
          refine lv_istore_n (lv' := [(2, .int (iI v9)), (0, .ref (ad 0)), (1, .int (iI y1)), (3, .int (iI y3))]) F.1 F.2.1 dX1_copiedBy_30 rfl hl (by decide) rfl (fun ls hl => ?_)
          obtain ⟨v10, ev10⟩ : ∃ z : Int, z = y3 + 1 := ⟨_, rfl⟩
          have h := h v10 ev10
          refine gv_iinc (lv' := [(3, .int (iI v10)), (2, .int (iI v9)), (0, .ref (ad 0)), (1, .int (iI y1))]) F dX1_copiedBy_31 hl (k := 3) rfl ev10 (by decide) rfl (fun ls hl => ?_)
          refine lv_goto (tgt := 4) F.1 F.2.1 dX1_copiedBy_34 (by decide) ?_
          exact ih y1 v9 v10 H locs ls h hP hS (lv_sub hl [2, 3, 1, 0] rfl)
  refine gv_iconst F dX1_copiedBy_0 ?_
  refine lv_istore_n (lv' := [(2, .int (iI 0)), (0, .ref (ad 0)), (1, .int (iI x1))]) F.1 F.2.1 dX1_copiedBy_1 rfl hl (by decide) rfl (fun ls hl => ?_)
  refine gv_iconst F dX1_copiedBy_2 ?_
  refine lv_istore_n (lv' := [(3, .int (iI 0)), (2, .int (iI 0)), (0, .ref (ad 0)), (1, .int (iI x1))]) F.1 F.2.1 dX1_copiedBy_3 rfl hl (by decide) rfl (fun ls hl => ?_)
  obtain ⟨n11, h⟩ := h
  exact L4 n11 x1 0 0 H locs ls h hP hS (lv_sub hl [2, 3, 1, 0] rfl)
abbrev rX1_answersOfAll : Room := { frames := 2, cells := 0, slots := 0, locals := 45 }
set_option maxHeartbeats 4000000 in
set_option maxRecDepth 20000 in
theorem c_X1_answersOfAll (l : Launch) (D : va_G) (cy : ClassId) (ad : Nat → Nat) (M : MS) (Q : Int → Prop) (h : wX1_answersOfAll M Q) : MetR l yX1_answersOfAll (wT yX1_answersOfAll cX1_answersOfAll 3 (some .int)) rX1_answersOfAll D cy [.ref (ad 0)] (wMu cy ad M) Q := by
  refine gI_R (by decide) (Nat.le_of_ble_eq_true rfl) ?_
  intro p e s m args below meth c A Qg F hK hA ret H locs ls hl hP hS
  have F : CallFix p m c cX1_answersOfAll 3 s args gT RX1 := F
  have hl : lv_has ls 3 [(0, .ref (ad 0))] := hl
  have L4 : ∀ (n : Nat) (y1 : Int) (y2 : Int) (H : Heap) (locs : List Loc) (ls : Array Slot), wX1_answersOfAll_4 M Q n y1 y2 → va_P D vwCl (wMu cy ad M) H → va_S A s.heap H locs → lv_has ls 3 [(0, .ref (ad 0)), (1, .int (iI y1)), (2, .int (iI y2))] → W p l e rX1_answersOfAll s m args below meth c H locs 0 0 Qg (F0 m 4 ls []) := by
    intro  n
    induction n with
    | zero => intro _ _ _ _ _ h; exact h.elim
    | succ n ih =>
      intro y1 y2 H locs ls h hP hS hl
      rw [wX1_answersOfAll_4_s] at h
      refine lv_iload_n F.1 F.2.1 dX1_answersOfAll_4 rfl (lv_at hl 2 rfl) ?_
      refine lv_aload_n F.1 F.2.1 dX1_answersOfAll_5 rfl (lv_at hl 0 rfl) ?_
      refine gv_get F hin1 hK hP 0 rfl rfl 7 (by decide) k130 rfl dX1_answersOfAll_6 ?_
      obtain ⟨g1, h⟩ := h
      obtain ⟨g2, h⟩ := h
      refine gv_icmp_ge (tgt := 26) F g1 g2 dX1_answersOfAll_9 (by decide) (fun c3 => ?_) (fun c3 => ?_)
      · have h := h.1 c3
        refine lv_iload_n F.1 F.2.1 dX1_answersOfAll_26 rfl (lv_at hl 1 rfl) ?_
        exact ret y1 H locs 27 ls h rfl hS dX1_answersOfAll_27
      · have h := h.2 c3
        refine lv_iload_n F.1 F.2.1 dX1_answersOfAll_12 rfl (lv_at hl 1 rfl) ?_
        refine lv_aload_n F.1 F.2.1 dX1_answersOfAll_13 rfl (lv_at hl 0 rfl) ?_
        refine lv_iload_n F.1 F.2.1 dX1_answersOfAll_14 rfl (lv_at hl 2 rfl) ?_
        refine gc_VR (As := [.int (iI y2)]) F hK hA hP hS hP (c_X1_answersOf l D cy ad M y2 _ h) (cwV 1 F.2.2.2.2 (gG_V k749 k548 k549 k62 k550) rfl rfl rfl hd_X1_answersOf ⟨Nat.le_of_ble_eq_true rfl, Nat.le_of_ble_eq_true rfl⟩) rfl rfl dX1_answersOfAll_15 rfl rfl hl.1 (Nat.le_of_ble_eq_true rfl) ⟨Nat.le_of_ble_eq_true rfl, Nat.le_of_ble_eq_true rfl⟩ (fun u4 H locs h hP hS => ?_)
        refine gv_iadd F dX1_answersOfAll_18 ?_
        refine gv_name (fun v5 ev5 => ?_)
        have h := h v5 ev5
        refine lv_istore_n (lv' := [(1, .int (iI v5)), (0, .ref (ad 0)), (2, .int (iI y2))]) F.1 F.2.1 dX1_answersOfAll_19 rfl hl (by decide) rfl (fun ls hl => ?_)
        obtain ⟨v6, ev6⟩ : ∃ z : Int, z = y2 + 1 := ⟨_, rfl⟩
        have h := h v6 ev6
        refine gv_iinc (lv' := [(2, .int (iI v6)), (1, .int (iI v5)), (0, .ref (ad 0))]) F dX1_answersOfAll_20 hl (k := 2) rfl ev6 (by decide) rfl (fun ls hl => ?_)
        refine lv_goto (tgt := 4) F.1 F.2.1 dX1_answersOfAll_23 (by decide) ?_
        exact ih v5 v6 H locs ls h hP hS (lv_sub hl [2, 1, 0] rfl)
  refine gv_iconst F dX1_answersOfAll_0 ?_
  refine lv_istore_n (lv' := [(1, .int (iI 0)), (0, .ref (ad 0))]) F.1 F.2.1 dX1_answersOfAll_1 rfl hl (by decide) rfl (fun ls hl => ?_)
  refine gv_iconst F dX1_answersOfAll_2 ?_
  refine lv_istore_n (lv' := [(2, .int (iI 0)), (1, .int (iI 0)), (0, .ref (ad 0))]) F.1 F.2.1 dX1_answersOfAll_3 rfl hl (by decide) rfl (fun ls hl => ?_)
  obtain ⟨n7, h⟩ := h
  exact L4 n7 0 0 H locs ls h hP hS (lv_sub hl [2, 1, 0] rfl)
abbrev rX1_rightOfAll : Room := { frames := 2, cells := 0, slots := 0, locals := 45 }
set_option maxHeartbeats 4000000 in
set_option maxRecDepth 20000 in
theorem c_X1_rightOfAll (l : Launch) (D : va_G) (cy : ClassId) (ad : Nat → Nat) (M : MS) (Q : Int → Prop) (h : wX1_rightOfAll M Q) : MetR l yX1_rightOfAll (wT yX1_rightOfAll cX1_rightOfAll 3 (some .int)) rX1_rightOfAll D cy [.ref (ad 0)] (wMu cy ad M) Q := by
  refine gI_R (by decide) (Nat.le_of_ble_eq_true rfl) ?_
  intro p e s m args below meth c A Qg F hK hA ret H locs ls hl hP hS
  have F : CallFix p m c cX1_rightOfAll 3 s args gT RX1 := F
  have hl : lv_has ls 3 [(0, .ref (ad 0))] := hl
  have L4 : ∀ (n : Nat) (y1 : Int) (y2 : Int) (H : Heap) (locs : List Loc) (ls : Array Slot), wX1_rightOfAll_4 M Q n y1 y2 → va_P D vwCl (wMu cy ad M) H → va_S A s.heap H locs → lv_has ls 3 [(0, .ref (ad 0)), (1, .int (iI y1)), (2, .int (iI y2))] → W p l e rX1_rightOfAll s m args below meth c H locs 0 0 Qg (F0 m 4 ls []) := by
    intro  n
    induction n with
    | zero => intro _ _ _ _ _ h; exact h.elim
    | succ n ih =>
      intro y1 y2 H locs ls h hP hS hl
      rw [wX1_rightOfAll_4_s] at h
      refine lv_iload_n F.1 F.2.1 dX1_rightOfAll_4 rfl (lv_at hl 2 rfl) ?_
      refine lv_aload_n F.1 F.2.1 dX1_rightOfAll_5 rfl (lv_at hl 0 rfl) ?_
      refine gv_get F hin1 hK hP 0 rfl rfl 7 (by decide) k130 rfl dX1_rightOfAll_6 ?_
      obtain ⟨g1, h⟩ := h
      obtain ⟨g2, h⟩ := h
      refine gv_icmp_ge (tgt := 26) F g1 g2 dX1_rightOfAll_9 (by decide) (fun c3 => ?_) (fun c3 => ?_)
      · have h := h.1 c3
        refine lv_iload_n F.1 F.2.1 dX1_rightOfAll_26 rfl (lv_at hl 1 rfl) ?_
        exact ret y1 H locs 27 ls h rfl hS dX1_rightOfAll_27
      · have h := h.2 c3
        refine lv_iload_n F.1 F.2.1 dX1_rightOfAll_12 rfl (lv_at hl 1 rfl) ?_
        refine lv_aload_n F.1 F.2.1 dX1_rightOfAll_13 rfl (lv_at hl 0 rfl) ?_
        refine lv_iload_n F.1 F.2.1 dX1_rightOfAll_14 rfl (lv_at hl 2 rfl) ?_
        refine gc_VR (As := [.int (iI y2)]) F hK hA hP hS hP (c_X1_rightOf l D cy ad M y2 _ h) (cwV 1 F.2.2.2.2 (gG_V k527 k528 k529 k62 k530) rfl rfl rfl hd_X1_rightOf ⟨Nat.le_of_ble_eq_true rfl, Nat.le_of_ble_eq_true rfl⟩) rfl rfl dX1_rightOfAll_15 rfl rfl hl.1 (Nat.le_of_ble_eq_true rfl) ⟨Nat.le_of_ble_eq_true rfl, Nat.le_of_ble_eq_true rfl⟩ (fun u4 H locs h hP hS => ?_)
        refine gv_iadd F dX1_rightOfAll_18 ?_
        refine gv_name (fun v5 ev5 => ?_)
        have h := h v5 ev5
        refine lv_istore_n (lv' := [(1, .int (iI v5)), (0, .ref (ad 0)), (2, .int (iI y2))]) F.1 F.2.1 dX1_rightOfAll_19 rfl hl (by decide) rfl (fun ls hl => ?_)
        obtain ⟨v6, ev6⟩ : ∃ z : Int, z = y2 + 1 := ⟨_, rfl⟩
        have h := h v6 ev6
        refine gv_iinc (lv' := [(2, .int (iI v6)), (1, .int (iI v5)), (0, .ref (ad 0))]) F dX1_rightOfAll_20 hl (k := 2) rfl ev6 (by decide) rfl (fun ls hl => ?_)
        refine lv_goto (tgt := 4) F.1 F.2.1 dX1_rightOfAll_23 (by decide) ?_
        exact ih v5 v6 H locs ls h hP hS (lv_sub hl [2, 1, 0] rfl)
  refine gv_iconst F dX1_rightOfAll_0 ?_
  refine lv_istore_n (lv' := [(1, .int (iI 0)), (0, .ref (ad 0))]) F.1 F.2.1 dX1_rightOfAll_1 rfl hl (by decide) rfl (fun ls hl => ?_)
  refine gv_iconst F dX1_rightOfAll_2 ?_
  refine lv_istore_n (lv' := [(2, .int (iI 0)), (1, .int (iI 0)), (0, .ref (ad 0))]) F.1 F.2.1 dX1_rightOfAll_3 rfl hl (by decide) rfl (fun ls hl => ?_)
  obtain ⟨n7, h⟩ := h
  exact L4 n7 0 0 H locs ls h hP hS (lv_sub hl [2, 1, 0] rfl)
abbrev rX1_copiedByAll : Room := { frames := 2, cells := 0, slots := 0, locals := 45 }
set_option maxHeartbeats 4000000 in
set_option maxRecDepth 20000 in
theorem c_X1_copiedByAll (l : Launch) (D : va_G) (cy : ClassId) (ad : Nat → Nat) (M : MS) (Q : Int → Prop) (h : wX1_copiedByAll M Q) : MetR l yX1_copiedByAll (wT yX1_copiedByAll cX1_copiedByAll 3 (some .int)) rX1_copiedByAll D cy [.ref (ad 0)] (wMu cy ad M) Q := by
  refine gI_R (by decide) (Nat.le_of_ble_eq_true rfl) ?_
  intro p e s m args below meth c A Qg F hK hA ret H locs ls hl hP hS
  have F : CallFix p m c cX1_copiedByAll 3 s args gT RX1 := F
  have hl : lv_has ls 3 [(0, .ref (ad 0))] := hl
  have L4 : ∀ (n : Nat) (y1 : Int) (y2 : Int) (H : Heap) (locs : List Loc) (ls : Array Slot), wX1_copiedByAll_4 M Q n y1 y2 → va_P D vwCl (wMu cy ad M) H → va_S A s.heap H locs → lv_has ls 3 [(0, .ref (ad 0)), (1, .int (iI y1)), (2, .int (iI y2))] → W p l e rX1_copiedByAll s m args below meth c H locs 0 0 Qg (F0 m 4 ls []) := by
    intro  n
    induction n with
    | zero => intro _ _ _ _ _ h; exact h.elim
    | succ n ih =>
      intro y1 y2 H locs ls h hP hS hl
      rw [wX1_copiedByAll_4_s] at h
      refine lv_iload_n F.1 F.2.1 dX1_copiedByAll_4 rfl (lv_at hl 2 rfl) ?_
      refine lv_aload_n F.1 F.2.1 dX1_copiedByAll_5 rfl (lv_at hl 0 rfl) ?_
      refine gv_get F hin1 hK hP 0 rfl rfl 7 (by decide) k130 rfl dX1_copiedByAll_6 ?_
      obtain ⟨g1, h⟩ := h
      obtain ⟨g2, h⟩ := h
      refine gv_icmp_ge (tgt := 26) F g1 g2 dX1_copiedByAll_9 (by decide) (fun c3 => ?_) (fun c3 => ?_)
      · have h := h.1 c3
        refine lv_iload_n F.1 F.2.1 dX1_copiedByAll_26 rfl (lv_at hl 1 rfl) ?_
        exact ret y1 H locs 27 ls h rfl hS dX1_copiedByAll_27
      · have h := h.2 c3
        refine lv_iload_n F.1 F.2.1 dX1_copiedByAll_12 rfl (lv_at hl 1 rfl) ?_
        refine lv_aload_n F.1 F.2.1 dX1_copiedByAll_13 rfl (lv_at hl 0 rfl) ?_
        refine lv_iload_n F.1 F.2.1 dX1_copiedByAll_14 rfl (lv_at hl 2 rfl) ?_
        refine gc_VR (As := [.int (iI y2)]) F hK hA hP hS hP (c_X1_copiedBy l D cy ad M y2 _ h) (cwV 1 F.2.2.2.2 (gG_V k728 k553 k554 k62 k555) rfl rfl rfl hd_X1_copiedBy ⟨Nat.le_of_ble_eq_true rfl, Nat.le_of_ble_eq_true rfl⟩) rfl rfl dX1_copiedByAll_15 rfl rfl hl.1 (Nat.le_of_ble_eq_true rfl) ⟨Nat.le_of_ble_eq_true rfl, Nat.le_of_ble_eq_true rfl⟩ (fun u4 H locs h hP hS => ?_)
        refine gv_iadd F dX1_copiedByAll_18 ?_
        refine gv_name (fun v5 ev5 => ?_)
        have h := h v5 ev5
        refine lv_istore_n (lv' := [(1, .int (iI v5)), (0, .ref (ad 0)), (2, .int (iI y2))]) F.1 F.2.1 dX1_copiedByAll_19 rfl hl (by decide) rfl (fun ls hl => ?_)
        obtain ⟨v6, ev6⟩ : ∃ z : Int, z = y2 + 1 := ⟨_, rfl⟩
        have h := h v6 ev6
        refine gv_iinc (lv' := [(2, .int (iI v6)), (1, .int (iI v5)), (0, .ref (ad 0))]) F dX1_copiedByAll_20 hl (k := 2) rfl ev6 (by decide) rfl (fun ls hl => ?_)
        refine lv_goto (tgt := 4) F.1 F.2.1 dX1_copiedByAll_23 (by decide) ?_
        exact ih v5 v6 H locs ls h hP hS (lv_sub hl [2, 1, 0] rfl)
  refine gv_iconst F dX1_copiedByAll_0 ?_
  refine lv_istore_n (lv' := [(1, .int (iI 0)), (0, .ref (ad 0))]) F.1 F.2.1 dX1_copiedByAll_1 rfl hl (by decide) rfl (fun ls hl => ?_)
  refine gv_iconst F dX1_copiedByAll_2 ?_
  refine lv_istore_n (lv' := [(2, .int (iI 0)), (1, .int (iI 0)), (0, .ref (ad 0))]) F.1 F.2.1 dX1_copiedByAll_3 rfl hl (by decide) rfl (fun ls hl => ?_)
  obtain ⟨n7, h⟩ := h
  exact L4 n7 0 0 H locs ls h hP hS (lv_sub hl [2, 1, 0] rfl)
abbrev rX1_groupsAt : Room := { frames := 0, cells := 0, slots := 0, locals := 0 }
set_option maxHeartbeats 4000000 in
set_option maxRecDepth 20000 in
theorem c_X1_groupsAt (l : Launch) (D : va_G) (cy : ClassId) (ad : Nat → Nat) (M : MS) (x1 : Int) (Q : Int → Prop) (h : wX1_groupsAt M x1 Q) : MetR l yX1_groupsAt (wT yX1_groupsAt cX1_groupsAt 4 (some .int)) rX1_groupsAt D cy [.ref (ad 0), .int (iI x1)] (wMu cy ad M) Q := by
  refine gI_R (by decide) (Nat.le_of_ble_eq_true rfl) ?_
  intro p e s m args below meth c A Qg F hK hA ret H locs ls hl hP hS
  have F : CallFix p m c cX1_groupsAt 4 s args gT RX1 := F
  have hl : lv_has ls 4 [(0, .ref (ad 0)), (1, .int (iI x1))] := hl
  have L4 : ∀ (n : Nat) (y1 : Int) (y2 : Int) (y3 : Int) (H : Heap) (locs : List Loc) (ls : Array Slot), wX1_groupsAt_4 M Q n y1 y2 y3 → va_P D vwCl (wMu cy ad M) H → va_S A s.heap H locs → lv_has ls 4 [(0, .ref (ad 0)), (1, .int (iI y1)), (2, .int (iI y2)), (3, .int (iI y3))] → W p l e rX1_groupsAt s m args below meth c H locs 0 0 Qg (F0 m 4 ls []) := by
    intro  n
    induction n with
    | zero => intro _ _ _ _ _ _ h; exact h.elim
    | succ n ih =>
      intro y1 y2 y3 H locs ls h hP hS hl
      rw [wX1_groupsAt_4_s] at h
      refine lv_iload_n F.1 F.2.1 dX1_groupsAt_4 rfl (lv_at hl 3 rfl) ?_
      refine lv_aload_n F.1 F.2.1 dX1_groupsAt_5 rfl (lv_at hl 0 rfl) ?_
      refine gv_get F hin1 hK hP 0 rfl rfl 7 (by decide) k130 rfl dX1_groupsAt_6 ?_
      obtain ⟨g1, h⟩ := h
      obtain ⟨g2, h⟩ := h
      refine gv_icmp_ge (tgt := 36) F g1 g2 dX1_groupsAt_9 (by decide) (fun c3 => ?_) (fun c3 => ?_)
      · have h := h.1 c3
        refine lv_iload_n F.1 F.2.1 dX1_groupsAt_36 rfl (lv_at hl 2 rfl) ?_
        exact ret y2 H locs 37 ls h rfl hS dX1_groupsAt_37
      · have h := h.2 c3
        refine lv_iload_n F.1 F.2.1 dX1_groupsAt_12 rfl (lv_at hl 2 rfl) ?_
        refine lv_aload_n F.1 F.2.1 dX1_groupsAt_13 rfl (lv_at hl 0 rfl) ?_
        refine gv_get F hin1 hK hP 0 rfl rfl 11 (by decide) k138 rfl dX1_groupsAt_14 ?_
        refine lv_iload_n F.1 F.2.1 dX1_groupsAt_17 rfl (lv_at hl 3 rfl) ?_
        obtain ⟨g4, h⟩ := h
        refine gv_iald (n := 5) (g := (M 11)) F hK hP 11 rfl rfl (by decide) g4 dX1_groupsAt_18 ?_
        refine lv_iload_n F.1 F.2.1 dX1_groupsAt_19 rfl (lv_at hl 1 rfl) ?_
        obtain ⟨g5, h⟩ := h
        obtain ⟨g6, h⟩ := h
        refine gv_icmp_ne (tgt := 27) F g5 g6 dX1_groupsAt_20 (by decide) (fun c7 => ?_) (fun c7 => ?_)
        · have h := h.1 c7
          refine gv_iconst F dX1_groupsAt_27 ?_
          refine gv_iadd F dX1_groupsAt_28 ?_
          refine gv_name (fun v8 ev8 => ?_)
          have h := h v8 ev8
          refine lv_istore_n (lv' := [(2, .int (iI v8)), (0, .ref (ad 0)), (1, .int (iI y1)), (3, .int (iI y3))]) F.1 F.2.1 dX1_groupsAt_29 rfl hl (by decide) rfl (fun ls hl => ?_)
          obtain ⟨v9, ev9⟩ : ∃ z : Int, z = y3 + 1 := ⟨_, rfl⟩
          have h := h v9 ev9
          refine gv_iinc (lv' := [(3, .int (iI v9)), (2, .int (iI v8)), (0, .ref (ad 0)), (1, .int (iI y1))]) F dX1_groupsAt_30 hl (k := 3) rfl ev9 (by decide) rfl (fun ls hl => ?_)
          refine lv_goto (tgt := 4) F.1 F.2.1 dX1_groupsAt_33 (by decide) ?_
          exact ih y1 v8 v9 H locs ls h hP hS (lv_sub hl [2, 3, 1, 0] rfl)
        · have h := h.2 c7
          refine gv_iconst F dX1_groupsAt_23 ?_
          refine lv_goto (tgt := 28) F.1 F.2.1 dX1_groupsAt_24 (by decide) ?_
          refine gv_iadd F dX1_groupsAt_28 ?_
          refine gv_name (fun v10 ev10 => ?_)
          have h := h v10 ev10
          refine lv_istore_n (lv' := [(2, .int (iI v10)), (0, .ref (ad 0)), (1, .int (iI y1)), (3, .int (iI y3))]) F.1 F.2.1 dX1_groupsAt_29 rfl hl (by decide) rfl (fun ls hl => ?_)
          obtain ⟨v11, ev11⟩ : ∃ z : Int, z = y3 + 1 := ⟨_, rfl⟩
          have h := h v11 ev11
          refine gv_iinc (lv' := [(3, .int (iI v11)), (2, .int (iI v10)), (0, .ref (ad 0)), (1, .int (iI y1))]) F dX1_groupsAt_30 hl (k := 3) rfl ev11 (by decide) rfl (fun ls hl => ?_)
          refine lv_goto (tgt := 4) F.1 F.2.1 dX1_groupsAt_33 (by decide) ?_
          exact ih y1 v10 v11 H locs ls h hP hS (lv_sub hl [2, 3, 1, 0] rfl)
  refine gv_iconst F dX1_groupsAt_0 ?_
  refine lv_istore_n (lv' := [(2, .int (iI 0)), (0, .ref (ad 0)), (1, .int (iI x1))]) F.1 F.2.1 dX1_groupsAt_1 rfl hl (by decide) rfl (fun ls hl => ?_)
  refine gv_iconst F dX1_groupsAt_2 ?_
  refine lv_istore_n (lv' := [(3, .int (iI 0)), (2, .int (iI 0)), (0, .ref (ad 0)), (1, .int (iI x1))]) F.1 F.2.1 dX1_groupsAt_3 rfl hl (by decide) rfl (fun ls hl => ?_)
  obtain ⟨n12, h⟩ := h
  exact L4 n12 x1 0 0 H locs ls h hP hS (lv_sub hl [2, 3, 1, 0] rfl)
