abbrev rX4_door : Room := { frames := 2, cells := 0, slots := 0, locals := 48 }
set_option maxHeartbeats 4000000 in
set_option maxRecDepth 20000 in
theorem c_X4_door (l : Launch) (D : va_G) (cy : ClassId) (ad : Nat → Nat) (o : AR) (ss : AR) (mm : AR) (im : AR) (wa : AR) (le : AR) (ro : AR) (re : AR) (fa : AR) (nu : AR) (x1 x2 : Int) (Q : Int → AR → AR → Prop) (h : wX4_door ss re fa x1 x2 Q) : MetI l yX4_door (wT yX4_door cX4_door 3 (some .int)) rX4_door D cy [.ref (ad 0), .int (iI x1), .int (iI x2)] (wMd cy ad o ss mm im wa le ro re fa nu) (fun u : AR × AR => wMd cy ad o ss mm im wa le ro u.1 u.2 nu) (fun r u => Q r u.1 u.2) := by
  refine gI_I (by decide) (Nat.le_of_ble_eq_true rfl) ?_
  intro p e s m args below meth c A Qg F hK hA ret H locs ls hl hP hD hS
  have F : CallFix p m c cX4_door 3 s args gT RX4 := F
  have hl : lv_has ls 3 [(0, .ref (ad 0)), (1, .int (iI x1)), (2, .int (iI x2))] := hl
  refine lv_iload_n F.1 F.2.1 dX4_door_0 rfl (lv_at hl 1 rfl) ?_
  refine gc_SR (As := [.int (iI x1)]) F hK hA hP hS gPnil (c_X4_isRoom l D cy x1 _ h) (cwS 1 F.2.2.2.2 (gG_S k849 k850 k67 k851) rfl rfl rfl hd_X4_isRoom ⟨Nat.le_of_ble_eq_true rfl, Nat.le_of_ble_eq_true rfl⟩) dX4_door_1 rfl rfl hl.1 (Nat.le_of_ble_eq_true rfl) ⟨Nat.le_of_ble_eq_true rfl, Nat.le_of_ble_eq_true rfl⟩ (fun u1 H locs h hP hS => ?_)
  obtain ⟨bu1, h⟩ := h
  refine gv_if_eq (tgt := 27) F (gRb bu1) dX4_door_4 (by decide) (fun c2 => ?_) (fun c2 => ?_)
  · have h := h.1 c2
    refine lv_aload_n F.1 F.2.1 dX4_door_27 rfl (lv_at hl 0 rfl) ?_
    refine gv_iconst F dX4_door_28 ?_
    refine gc_VI (As := [.int (iI (-1))]) (wn := fun u : AR => wMd cy ad o ss mm im wa le ro u fa nu) F hK hA hP hD hS hP hD (fun u H1 _ h1 h2 => ⟨h1, h2⟩) (c_X4_no l D cy ad o ss mm im wa le ro re fa nu (-1) _ h) (cwV 1 F.2.2.2.2 (gG_V k812 k814 k34 k67 k815) rfl rfl rfl hd_X4_no ⟨Nat.le_of_ble_eq_true rfl, Nat.le_of_ble_eq_true rfl⟩) rfl rfl dX4_door_29 rfl rfl hl.1 (Nat.le_of_ble_eq_true rfl) ⟨Nat.le_of_ble_eq_true rfl, Nat.le_of_ble_eq_true rfl⟩ (fun u4 z3 H locs h hP hD hS => ?_)
    try dsimp only at h hP hD
    exact ret u4 (z3, fa) H locs 32 ls h rfl hP hD hS dX4_door_32
  · have h := h.2 c2
    refine lv_iload_n F.1 F.2.1 dX4_door_7 rfl (lv_at hl 2 rfl) ?_
    refine gc_SR (As := [.int (iI x2)]) F hK hA hP hS gPnil (c_X4_isRoom l D cy x2 _ h) (cwS 1 F.2.2.2.2 (gG_S k849 k850 k67 k851) rfl rfl rfl hd_X4_isRoom ⟨Nat.le_of_ble_eq_true rfl, Nat.le_of_ble_eq_true rfl⟩) dX4_door_8 rfl rfl hl.1 (Nat.le_of_ble_eq_true rfl) ⟨Nat.le_of_ble_eq_true rfl, Nat.le_of_ble_eq_true rfl⟩ (fun u5 H locs h hP hS => ?_)
    obtain ⟨bu5, h⟩ := h
    refine gv_if_eq (tgt := 27) F (gRb bu5) dX4_door_11 (by decide) (fun c6 => ?_) (fun c6 => ?_)
    · have h := h.1 c6
      refine lv_aload_n F.1 F.2.1 dX4_door_27 rfl (lv_at hl 0 rfl) ?_
      refine gv_iconst F dX4_door_28 ?_
      refine gc_VI (As := [.int (iI (-1))]) (wn := fun u : AR => wMd cy ad o ss mm im wa le ro u fa nu) F hK hA hP hD hS hP hD (fun u H1 _ h1 h2 => ⟨h1, h2⟩) (c_X4_no l D cy ad o ss mm im wa le ro re fa nu (-1) _ h) (cwV 1 F.2.2.2.2 (gG_V k812 k814 k34 k67 k815) rfl rfl rfl hd_X4_no ⟨Nat.le_of_ble_eq_true rfl, Nat.le_of_ble_eq_true rfl⟩) rfl rfl dX4_door_29 rfl rfl hl.1 (Nat.le_of_ble_eq_true rfl) ⟨Nat.le_of_ble_eq_true rfl, Nat.le_of_ble_eq_true rfl⟩ (fun u8 z7 H locs h hP hD hS => ?_)
      try dsimp only at h hP hD
      exact ret u8 (z7, fa) H locs 32 ls h rfl hP hD hS dX4_door_32
    · have h := h.2 c6
      refine lv_aload_n F.1 F.2.1 dX4_door_14 rfl (lv_at hl 0 rfl) ?_
      refine lv_aload_n F.1 F.2.1 dX4_door_15 rfl (lv_at hl 0 rfl) ?_
      refine gv_get F hin4 hK hP 0 rfl rfl 0 (by decide) k756 rfl dX4_door_16 ?_
      refine lv_iload_n F.1 F.2.1 dX4_door_19 rfl (lv_at hl 1 rfl) ?_
      refine lv_iload_n F.1 F.2.1 dX4_door_20 rfl (lv_at hl 2 rfl) ?_
      refine gc_VI (As := [.ref (ad 1), .int (iI x1), .int (iI x2)]) (wn := fun u : AR => wMd cy ad o ss mm im wa le ro re u nu) F hK hA hP hD hS (cp_md_fs hP) (cd_md_fs hD) (fun u H1 hk h1 _ => cj_md_fs hP hD u ss H1 hk h1) (c_X4_doors l D cy ad (ad 1) o fa ss x1 x2 _ h) (cwV 3 F.2.2.2.2 (gG_V k913 k915 k48 k67 k916) rfl rfl rfl hd_X4_doors ⟨Nat.le_of_ble_eq_true rfl, Nat.le_of_ble_eq_true rfl⟩) rfl rfl dX4_door_21 rfl rfl hl.1 (Nat.le_of_ble_eq_true rfl) ⟨Nat.le_of_ble_eq_true rfl, Nat.le_of_ble_eq_true rfl⟩ (fun u10 z9 H locs h hP hD hS => ?_)
      try dsimp only at h hP hD
      refine lv_goto (tgt := 32) F.1 F.2.1 dX4_door_24 (by decide) ?_
      exact ret u10 (re, z9) H locs 32 ls h rfl hP hD hS dX4_door_32
abbrev rX4_question : Room := { frames := 2, cells := 0, slots := 0, locals := 43 }
set_option maxHeartbeats 4000000 in
set_option maxRecDepth 20000 in
theorem c_X4_question (l : Launch) (D : va_G) (cy : ClassId) (ad : Nat → Nat) (o : AR) (ss : AR) (mm : AR) (im : AR) (wa : AR) (le : AR) (ro : AR) (re : AR) (fa : AR) (nu : AR) (x1 x2 : Int) (Q : Int → AR → Prop) (h : wX4_question ss re x1 x2 Q) : MetI l yX4_question (wT yX4_question cX4_question 3 (some .int)) rX4_question D cy [.ref (ad 0), .int (iI x1), .int (iI x2)] (wMd cy ad o ss mm im wa le ro re fa nu) (fun u : AR => wMd cy ad o ss mm im wa le ro u fa nu) (fun r u => Q r u) := by
  refine gI_I (by decide) (Nat.le_of_ble_eq_true rfl) ?_
  intro p e s m args below meth c A Qg F hK hA ret H locs ls hl hP hD hS
  have F : CallFix p m c cX4_question 3 s args gT RX4 := F
  have hl : lv_has ls 3 [(0, .ref (ad 0)), (1, .int (iI x1)), (2, .int (iI x2))] := hl
  refine lv_aload_n F.1 F.2.1 dX4_question_0 rfl (lv_at hl 0 rfl) ?_
  refine lv_iload_n F.1 F.2.1 dX4_question_1 rfl (lv_at hl 1 rfl) ?_
  refine gc_VR (As := [.int (iI x1)]) F hK hA hP hS hP (c_X4_isQuestion l D cy ad o ss mm im wa le ro re fa nu x1 _ h) (cwV 1 F.2.2.2.2 (gG_V k869 k871 k42 k67 k872) rfl rfl rfl hd_X4_isQuestion ⟨Nat.le_of_ble_eq_true rfl, Nat.le_of_ble_eq_true rfl⟩) rfl rfl dX4_question_2 rfl rfl hl.1 (Nat.le_of_ble_eq_true rfl) ⟨Nat.le_of_ble_eq_true rfl, Nat.le_of_ble_eq_true rfl⟩ (fun u1 H locs h hP hS => ?_)
  obtain ⟨bu1, h⟩ := h
  refine gv_if_ne (tgt := 14) F (gRb bu1) dX4_question_5 (by decide) (fun c2 => ?_) (fun c2 => ?_)
  · have h := h.1 c2
    refine lv_iload_n F.1 F.2.1 dX4_question_14 rfl (lv_at hl 2 rfl) ?_
    refine gv_iconst F dX4_question_15 ?_
    refine gv_iconst F dX4_question_16 ?_
    refine gc_SR (As := [.int (iI x2), .int (iI 0), .int (iI 3)]) F hK hA hP hS gPnil (c_X4_isIn l D cy x2 0 3 _ h) (cwS 3 F.2.2.2.2 (gG_S k832 k833 k67 k834) rfl rfl rfl hd_X4_isIn ⟨Nat.le_of_ble_eq_true rfl, Nat.le_of_ble_eq_true rfl⟩) dX4_question_17 rfl rfl hl.1 (Nat.le_of_ble_eq_true rfl) ⟨Nat.le_of_ble_eq_true rfl, Nat.le_of_ble_eq_true rfl⟩ (fun u3 H locs h hP hS => ?_)
    obtain ⟨bu3, h⟩ := h
    refine gv_if_eq (tgt := 36) F (gRb bu3) dX4_question_20 (by decide) (fun c4 => ?_) (fun c4 => ?_)
    · have h := h.1 c4
      refine lv_iload_n F.1 F.2.1 dX4_question_36 rfl (lv_at hl 2 rfl) ?_
      refine gv_iconst F dX4_question_37 ?_
      obtain ⟨g5, h⟩ := h
      refine gv_icmp_ne (tgt := 52) F g5 ⟨by decide, by decide⟩ dX4_question_38 (by decide) (fun c6 => ?_) (fun c6 => ?_)
      · have h := h.1 c6
        refine lv_aload_n F.1 F.2.1 dX4_question_52 rfl (lv_at hl 0 rfl) ?_
        refine gv_bipush F ⟨by decide, by decide⟩ dX4_question_53 ?_
        refine gc_VI (As := [.int (iI (-2))]) (wn := fun u : AR => wMd cy ad o ss mm im wa le ro u fa nu) F hK hA hP hD hS hP hD (fun u H1 _ h1 h2 => ⟨h1, h2⟩) (c_X4_no l D cy ad o ss mm im wa le ro re fa nu (-2) _ h) (cwV 1 F.2.2.2.2 (gG_V k812 k814 k34 k67 k815) rfl rfl rfl hd_X4_no ⟨Nat.le_of_ble_eq_true rfl, Nat.le_of_ble_eq_true rfl⟩) rfl rfl dX4_question_55 rfl rfl hl.1 (Nat.le_of_ble_eq_true rfl) ⟨Nat.le_of_ble_eq_true rfl, Nat.le_of_ble_eq_true rfl⟩ (fun u8 z7 H locs h hP hD hS => ?_)
        try dsimp only at h hP hD
        exact ret u8 z7 H locs 58 ls h rfl hP hD hS dX4_question_58
      · have h := h.2 c6
        refine lv_aload_n F.1 F.2.1 dX4_question_41 rfl (lv_at hl 0 rfl) ?_
        refine gv_get F hin4 hK hP 0 rfl rfl 0 (by decide) k756 rfl dX4_question_42 ?_
        refine lv_iload_n F.1 F.2.1 dX4_question_45 rfl (lv_at hl 1 rfl) ?_
        refine gc_SR (As := [.ref (ad 1), .int (iI x1)]) F hK hA hP hS (cp_md_s hP) (c_X4_minutesOf l D cy (ad 1) ss x1 _ h) (cwS 2 F.2.2.2.2 (gG_S k897 k898 k67 k899) rfl rfl rfl hd_X4_minutesOf ⟨Nat.le_of_ble_eq_true rfl, Nat.le_of_ble_eq_true rfl⟩) dX4_question_46 rfl rfl hl.1 (Nat.le_of_ble_eq_true rfl) ⟨Nat.le_of_ble_eq_true rfl, Nat.le_of_ble_eq_true rfl⟩ (fun u9 H locs h hP hS => ?_)
        refine lv_goto (tgt := 58) F.1 F.2.1 dX4_question_49 (by decide) ?_
        exact ret u9 re H locs 58 ls h rfl hP hD hS dX4_question_58
    · have h := h.2 c4
      refine lv_aload_n F.1 F.2.1 dX4_question_23 rfl (lv_at hl 0 rfl) ?_
      refine gv_get F hin4 hK hP 0 rfl rfl 0 (by decide) k756 rfl dX4_question_24 ?_
      refine lv_iload_n F.1 F.2.1 dX4_question_27 rfl (lv_at hl 1 rfl) ?_
      refine lv_iload_n F.1 F.2.1 dX4_question_28 rfl (lv_at hl 2 rfl) ?_
      refine gc_SR (As := [.int (iI x1), .int (iI x2)]) F hK hA hP hS gPnil (c_X4_ask l D cy x1 x2 _ h) (cwS 2 F.2.2.2.2 (gG_S k856 k857 k67 k858) rfl rfl rfl hd_X4_ask ⟨Nat.le_of_ble_eq_true rfl, Nat.le_of_ble_eq_true rfl⟩) dX4_question_29 rfl rfl hl.1 (Nat.le_of_ble_eq_true rfl) ⟨Nat.le_of_ble_eq_true rfl, Nat.le_of_ble_eq_true rfl⟩ (fun u10 H locs h hP hS => ?_)
      obtain ⟨g11, h⟩ := h
      refine gv_iald (n := 147) (g := ss) F hK hP 1 rfl rfl (by decide) g11 dX4_question_32 ?_
      refine lv_goto (tgt := 58) F.1 F.2.1 dX4_question_33 (by decide) ?_
      exact ret (ss u10) re H locs 58 ls h rfl hP hD hS dX4_question_58
  · have h := h.2 c2
    refine lv_aload_n F.1 F.2.1 dX4_question_8 rfl (lv_at hl 0 rfl) ?_
    refine gv_iconst F dX4_question_9 ?_
    refine gc_VI (As := [.int (iI (-1))]) (wn := fun u : AR => wMd cy ad o ss mm im wa le ro u fa nu) F hK hA hP hD hS hP hD (fun u H1 _ h1 h2 => ⟨h1, h2⟩) (c_X4_no l D cy ad o ss mm im wa le ro re fa nu (-1) _ h) (cwV 1 F.2.2.2.2 (gG_V k812 k814 k34 k67 k815) rfl rfl rfl hd_X4_no ⟨Nat.le_of_ble_eq_true rfl, Nat.le_of_ble_eq_true rfl⟩) rfl rfl dX4_question_10 rfl rfl hl.1 (Nat.le_of_ble_eq_true rfl) ⟨Nat.le_of_ble_eq_true rfl, Nat.le_of_ble_eq_true rfl⟩ (fun u13 z12 H locs h hP hD hS => ?_)
    try dsimp only at h hP hD
    exact ret u13 z12 H locs 13 ls h rfl hP hD hS dX4_question_13
abbrev rX4_group : Room := { frames := 2, cells := 0, slots := 0, locals := 44 }
set_option maxHeartbeats 4000000 in
set_option maxRecDepth 20000 in
theorem c_X4_group (l : Launch) (D : va_G) (cy : ClassId) (ad : Nat → Nat) (o : AR) (ss : AR) (mm : AR) (im : AR) (wa : AR) (le : AR) (ro : AR) (re : AR) (fa : AR) (nu : AR) (x1 x2 : Int) (Q : Int → AR → Prop) (h : wX4_group ss re x1 x2 Q) : MetI l yX4_group (wT yX4_group cX4_group 3 (some .int)) rX4_group D cy [.ref (ad 0), .int (iI x1), .int (iI x2)] (wMd cy ad o ss mm im wa le ro re fa nu) (fun u : AR => wMd cy ad o ss mm im wa le ro u fa nu) (fun r u => Q r u) := by
  refine gI_I (by decide) (Nat.le_of_ble_eq_true rfl) ?_
  intro p e s m args below meth c A Qg F hK hA ret H locs ls hl hP hD hS
  have F : CallFix p m c cX4_group 3 s args gT RX4 := F
  have hl : lv_has ls 3 [(0, .ref (ad 0)), (1, .int (iI x1)), (2, .int (iI x2))] := hl
  refine lv_aload_n F.1 F.2.1 dX4_group_0 rfl (lv_at hl 0 rfl) ?_
  refine lv_iload_n F.1 F.2.1 dX4_group_1 rfl (lv_at hl 1 rfl) ?_
  refine gc_VR (As := [.int (iI x1)]) F hK hA hP hS hP (c_X4_isGroup l D cy ad o ss mm im wa le ro re fa nu x1 _ h) (cwV 1 F.2.2.2.2 (gG_V k865 k867 k41 k67 k868) rfl rfl rfl hd_X4_isGroup ⟨Nat.le_of_ble_eq_true rfl, Nat.le_of_ble_eq_true rfl⟩) rfl rfl dX4_group_2 rfl rfl hl.1 (Nat.le_of_ble_eq_true rfl) ⟨Nat.le_of_ble_eq_true rfl, Nat.le_of_ble_eq_true rfl⟩ (fun u1 H locs h hP hS => ?_)
  obtain ⟨bu1, h⟩ := h
  refine gv_if_ne (tgt := 14) F (gRb bu1) dX4_group_5 (by decide) (fun c2 => ?_) (fun c2 => ?_)
  · have h := h.1 c2
    refine lv_iload_n F.1 F.2.1 dX4_group_14 rfl (lv_at hl 2 rfl) ?_
    refine gv_iconst F dX4_group_15 ?_
    refine gv_iconst F dX4_group_16 ?_
    refine gc_SR (As := [.int (iI x2), .int (iI 0), .int (iI 4)]) F hK hA hP hS gPnil (c_X4_isIn l D cy x2 0 4 _ h) (cwS 3 F.2.2.2.2 (gG_S k832 k833 k67 k834) rfl rfl rfl hd_X4_isIn ⟨Nat.le_of_ble_eq_true rfl, Nat.le_of_ble_eq_true rfl⟩) dX4_group_17 rfl rfl hl.1 (Nat.le_of_ble_eq_true rfl) ⟨Nat.le_of_ble_eq_true rfl, Nat.le_of_ble_eq_true rfl⟩ (fun u3 H locs h hP hS => ?_)
    obtain ⟨bu3, h⟩ := h
    refine gv_if_eq (tgt := 36) F (gRb bu3) dX4_group_20 (by decide) (fun c4 => ?_) (fun c4 => ?_)
    · have h := h.1 c4
      refine lv_iload_n F.1 F.2.1 dX4_group_36 rfl (lv_at hl 2 rfl) ?_
      refine gv_iconst F dX4_group_37 ?_
      obtain ⟨g5, h⟩ := h
      refine gv_icmp_ne (tgt := 52) F g5 ⟨by decide, by decide⟩ dX4_group_38 (by decide) (fun c6 => ?_) (fun c6 => ?_)
      · have h := h.1 c6
        refine lv_aload_n F.1 F.2.1 dX4_group_52 rfl (lv_at hl 0 rfl) ?_
        refine gv_bipush F ⟨by decide, by decide⟩ dX4_group_53 ?_
        refine gc_VI (As := [.int (iI (-2))]) (wn := fun u : AR => wMd cy ad o ss mm im wa le ro u fa nu) F hK hA hP hD hS hP hD (fun u H1 _ h1 h2 => ⟨h1, h2⟩) (c_X4_no l D cy ad o ss mm im wa le ro re fa nu (-2) _ h) (cwV 1 F.2.2.2.2 (gG_V k812 k814 k34 k67 k815) rfl rfl rfl hd_X4_no ⟨Nat.le_of_ble_eq_true rfl, Nat.le_of_ble_eq_true rfl⟩) rfl rfl dX4_group_55 rfl rfl hl.1 (Nat.le_of_ble_eq_true rfl) ⟨Nat.le_of_ble_eq_true rfl, Nat.le_of_ble_eq_true rfl⟩ (fun u8 z7 H locs h hP hD hS => ?_)
        try dsimp only at h hP hD
        exact ret u8 z7 H locs 58 ls h rfl hP hD hS dX4_group_58
      · have h := h.2 c6
        refine lv_aload_n F.1 F.2.1 dX4_group_41 rfl (lv_at hl 0 rfl) ?_
        refine gv_get F hin4 hK hP 0 rfl rfl 0 (by decide) k756 rfl dX4_group_42 ?_
        refine lv_iload_n F.1 F.2.1 dX4_group_45 rfl (lv_at hl 1 rfl) ?_
        refine gc_SR (As := [.ref (ad 1), .int (iI x1)]) F hK hA hP hS (cp_md_s hP) (c_X4_nextOf l D cy (ad 1) ss x1 _ h) (cwS 2 F.2.2.2.2 (gG_S k885 k886 k67 k887) rfl rfl rfl hd_X4_nextOf ⟨Nat.le_of_ble_eq_true rfl, Nat.le_of_ble_eq_true rfl⟩) dX4_group_46 rfl rfl hl.1 (Nat.le_of_ble_eq_true rfl) ⟨Nat.le_of_ble_eq_true rfl, Nat.le_of_ble_eq_true rfl⟩ (fun u9 H locs h hP hS => ?_)
        refine lv_goto (tgt := 58) F.1 F.2.1 dX4_group_49 (by decide) ?_
        exact ret u9 re H locs 58 ls h rfl hP hD hS dX4_group_58
    · have h := h.2 c4
      refine lv_aload_n F.1 F.2.1 dX4_group_23 rfl (lv_at hl 0 rfl) ?_
      refine gv_get F hin4 hK hP 0 rfl rfl 0 (by decide) k756 rfl dX4_group_24 ?_
      refine lv_iload_n F.1 F.2.1 dX4_group_27 rfl (lv_at hl 1 rfl) ?_
      refine lv_iload_n F.1 F.2.1 dX4_group_28 rfl (lv_at hl 2 rfl) ?_
      refine gc_SR (As := [.int (iI x1), .int (iI x2)]) F hK hA hP hS gPnil (c_X4_of l D cy x1 x2 _ h) (cwS 2 F.2.2.2.2 (gG_S k862 k863 k67 k864) rfl rfl rfl hd_X4_of ⟨Nat.le_of_ble_eq_true rfl, Nat.le_of_ble_eq_true rfl⟩) dX4_group_29 rfl rfl hl.1 (Nat.le_of_ble_eq_true rfl) ⟨Nat.le_of_ble_eq_true rfl, Nat.le_of_ble_eq_true rfl⟩ (fun u10 H locs h hP hS => ?_)
      obtain ⟨g11, h⟩ := h
      refine gv_iald (n := 147) (g := ss) F hK hP 1 rfl rfl (by decide) g11 dX4_group_32 ?_
      refine lv_goto (tgt := 58) F.1 F.2.1 dX4_group_33 (by decide) ?_
      exact ret (ss u10) re H locs 58 ls h rfl hP hD hS dX4_group_58
  · have h := h.2 c2
    refine lv_aload_n F.1 F.2.1 dX4_group_8 rfl (lv_at hl 0 rfl) ?_
    refine gv_iconst F dX4_group_9 ?_
    refine gc_VI (As := [.int (iI (-1))]) (wn := fun u : AR => wMd cy ad o ss mm im wa le ro u fa nu) F hK hA hP hD hS hP hD (fun u H1 _ h1 h2 => ⟨h1, h2⟩) (c_X4_no l D cy ad o ss mm im wa le ro re fa nu (-1) _ h) (cwV 1 F.2.2.2.2 (gG_V k812 k814 k34 k67 k815) rfl rfl rfl hd_X4_no ⟨Nat.le_of_ble_eq_true rfl, Nat.le_of_ble_eq_true rfl⟩) rfl rfl dX4_group_10 rfl rfl hl.1 (Nat.le_of_ble_eq_true rfl) ⟨Nat.le_of_ble_eq_true rfl, Nat.le_of_ble_eq_true rfl⟩ (fun u13 z12 H locs h hP hD hS => ?_)
    try dsimp only at h hP hD
    exact ret u13 z12 H locs 13 ls h rfl hP hD hS dX4_group_13
abbrev rX4_sheet : Room := { frames := 2, cells := 0, slots := 0, locals := 43 }
set_option maxHeartbeats 4000000 in
set_option maxRecDepth 20000 in
theorem c_X4_sheet (l : Launch) (D : va_G) (cy : ClassId) (ad : Nat → Nat) (o : AR) (ss : AR) (mm : AR) (im : AR) (wa : AR) (le : AR) (ro : AR) (re : AR) (fa : AR) (nu : AR) (x1 x2 : Int) (Q : Int → AR → Prop) (h : wX4_sheet ss re x1 x2 Q) : MetI l yX4_sheet (wT yX4_sheet cX4_sheet 3 (some .int)) rX4_sheet D cy [.ref (ad 0), .int (iI x1), .int (iI x2)] (wMd cy ad o ss mm im wa le ro re fa nu) (fun u : AR => wMd cy ad o ss mm im wa le ro u fa nu) (fun r u => Q r u) := by
  refine gI_I (by decide) (Nat.le_of_ble_eq_true rfl) ?_
  intro p e s m args below meth c A Qg F hK hA ret H locs ls hl hP hD hS
  have F : CallFix p m c cX4_sheet 3 s args gT RX4 := F
  have hl : lv_has ls 3 [(0, .ref (ad 0)), (1, .int (iI x1)), (2, .int (iI x2))] := hl
  refine lv_aload_n F.1 F.2.1 dX4_sheet_0 rfl (lv_at hl 0 rfl) ?_
  refine lv_iload_n F.1 F.2.1 dX4_sheet_1 rfl (lv_at hl 1 rfl) ?_
  refine gc_VR (As := [.int (iI x1)]) F hK hA hP hS hP (c_X4_isGroup l D cy ad o ss mm im wa le ro re fa nu x1 _ h) (cwV 1 F.2.2.2.2 (gG_V k865 k867 k41 k67 k868) rfl rfl rfl hd_X4_isGroup ⟨Nat.le_of_ble_eq_true rfl, Nat.le_of_ble_eq_true rfl⟩) rfl rfl dX4_sheet_2 rfl rfl hl.1 (Nat.le_of_ble_eq_true rfl) ⟨Nat.le_of_ble_eq_true rfl, Nat.le_of_ble_eq_true rfl⟩ (fun u1 H locs h hP hS => ?_)
  obtain ⟨bu1, h⟩ := h
  refine gv_if_eq (tgt := 29) F (gRb bu1) dX4_sheet_5 (by decide) (fun c2 => ?_) (fun c2 => ?_)
  · have h := h.1 c2
    refine lv_aload_n F.1 F.2.1 dX4_sheet_29 rfl (lv_at hl 0 rfl) ?_
    refine gv_iconst F dX4_sheet_30 ?_
    refine gc_VI (As := [.int (iI (-1))]) (wn := fun u : AR => wMd cy ad o ss mm im wa le ro u fa nu) F hK hA hP hD hS hP hD (fun u H1 _ h1 h2 => ⟨h1, h2⟩) (c_X4_no l D cy ad o ss mm im wa le ro re fa nu (-1) _ h) (cwV 1 F.2.2.2.2 (gG_V k812 k814 k34 k67 k815) rfl rfl rfl hd_X4_no ⟨Nat.le_of_ble_eq_true rfl, Nat.le_of_ble_eq_true rfl⟩) rfl rfl dX4_sheet_31 rfl rfl hl.1 (Nat.le_of_ble_eq_true rfl) ⟨Nat.le_of_ble_eq_true rfl, Nat.le_of_ble_eq_true rfl⟩ (fun u4 z3 H locs h hP hD hS => ?_)
    try dsimp only at h hP hD
    exact ret u4 z3 H locs 34 ls h rfl hP hD hS dX4_sheet_34
  · have h := h.2 c2
    refine lv_aload_n F.1 F.2.1 dX4_sheet_8 rfl (lv_at hl 0 rfl) ?_
    refine lv_iload_n F.1 F.2.1 dX4_sheet_9 rfl (lv_at hl 2 rfl) ?_
    refine gc_VR (As := [.int (iI x2)]) F hK hA hP hS hP (c_X4_isQuestion l D cy ad o ss mm im wa le ro re fa nu x2 _ h) (cwV 1 F.2.2.2.2 (gG_V k869 k871 k42 k67 k872) rfl rfl rfl hd_X4_isQuestion ⟨Nat.le_of_ble_eq_true rfl, Nat.le_of_ble_eq_true rfl⟩) rfl rfl dX4_sheet_10 rfl rfl hl.1 (Nat.le_of_ble_eq_true rfl) ⟨Nat.le_of_ble_eq_true rfl, Nat.le_of_ble_eq_true rfl⟩ (fun u5 H locs h hP hS => ?_)
    obtain ⟨bu5, h⟩ := h
    refine gv_if_eq (tgt := 29) F (gRb bu5) dX4_sheet_13 (by decide) (fun c6 => ?_) (fun c6 => ?_)
    · have h := h.1 c6
      refine lv_aload_n F.1 F.2.1 dX4_sheet_29 rfl (lv_at hl 0 rfl) ?_
      refine gv_iconst F dX4_sheet_30 ?_
      refine gc_VI (As := [.int (iI (-1))]) (wn := fun u : AR => wMd cy ad o ss mm im wa le ro u fa nu) F hK hA hP hD hS hP hD (fun u H1 _ h1 h2 => ⟨h1, h2⟩) (c_X4_no l D cy ad o ss mm im wa le ro re fa nu (-1) _ h) (cwV 1 F.2.2.2.2 (gG_V k812 k814 k34 k67 k815) rfl rfl rfl hd_X4_no ⟨Nat.le_of_ble_eq_true rfl, Nat.le_of_ble_eq_true rfl⟩) rfl rfl dX4_sheet_31 rfl rfl hl.1 (Nat.le_of_ble_eq_true rfl) ⟨Nat.le_of_ble_eq_true rfl, Nat.le_of_ble_eq_true rfl⟩ (fun u8 z7 H locs h hP hD hS => ?_)
      try dsimp only at h hP hD
      exact ret u8 z7 H locs 34 ls h rfl hP hD hS dX4_sheet_34
    · have h := h.2 c6
      refine lv_aload_n F.1 F.2.1 dX4_sheet_16 rfl (lv_at hl 0 rfl) ?_
      refine gv_get F hin4 hK hP 0 rfl rfl 0 (by decide) k756 rfl dX4_sheet_17 ?_
      refine lv_iload_n F.1 F.2.1 dX4_sheet_20 rfl (lv_at hl 1 rfl) ?_
      refine lv_iload_n F.1 F.2.1 dX4_sheet_21 rfl (lv_at hl 2 rfl) ?_
      refine gc_SR (As := [.int (iI x1), .int (iI x2)]) F hK hA hP hS gPnil (c_X4_sheetOf l D cy x1 x2 _ h) (cwS 2 F.2.2.2.2 (gG_S k859 k860 k67 k861) rfl rfl rfl hd_X4_sheetOf ⟨Nat.le_of_ble_eq_true rfl, Nat.le_of_ble_eq_true rfl⟩) dX4_sheet_22 rfl rfl hl.1 (Nat.le_of_ble_eq_true rfl) ⟨Nat.le_of_ble_eq_true rfl, Nat.le_of_ble_eq_true rfl⟩ (fun u9 H locs h hP hS => ?_)
      obtain ⟨g10, h⟩ := h
      refine gv_iald (n := 147) (g := ss) F hK hP 1 rfl rfl (by decide) g10 dX4_sheet_25 ?_
      refine lv_goto (tgt := 34) F.1 F.2.1 dX4_sheet_26 (by decide) ?_
      exact ret (ss u9) re H locs 34 ls h rfl hP hD hS dX4_sheet_34
abbrev rX4_opens : Room := { frames := 2, cells := 0, slots := 0, locals := 42 }
set_option maxHeartbeats 4000000 in
set_option maxRecDepth 20000 in
theorem c_X4_opens (l : Launch) (D : va_G) (cy : ClassId) (ad : Nat → Nat) (o : AR) (ss : AR) (mm : AR) (im : AR) (wa : AR) (le : AR) (ro : AR) (re : AR) (fa : AR) (nu : AR) (x1 x2 : Int) (Q : Int → AR → AR → Prop) (h : wX4_opens ss re x1 x2 Q) : MetI l yX4_opens (wT yX4_opens cX4_opens 3 (some .int)) rX4_opens D cy [.ref (ad 0), .int (iI x1), .int (iI x2)] (wMd cy ad o ss mm im wa le ro re fa nu) (fun u : AR × AR => wMd cy ad o u.1 mm im wa le ro u.2 fa nu) (fun r u => Q r u.1 u.2) := by
  refine gI_I (by decide) (Nat.le_of_ble_eq_true rfl) ?_
  intro p e s m args below meth c A Qg F hK hA ret H locs ls hl hP hD hS
  have F : CallFix p m c cX4_opens 3 s args gT RX4 := F
  have hl : lv_has ls 3 [(0, .ref (ad 0)), (1, .int (iI x1)), (2, .int (iI x2))] := hl
  refine lv_iload_n F.1 F.2.1 dX4_opens_0 rfl (lv_at hl 1 rfl) ?_
  refine gc_SR (As := [.int (iI x1)]) F hK hA hP hS gPnil (c_X4_isRoom l D cy x1 _ h) (cwS 1 F.2.2.2.2 (gG_S k849 k850 k67 k851) rfl rfl rfl hd_X4_isRoom ⟨Nat.le_of_ble_eq_true rfl, Nat.le_of_ble_eq_true rfl⟩) dX4_opens_1 rfl rfl hl.1 (Nat.le_of_ble_eq_true rfl) ⟨Nat.le_of_ble_eq_true rfl, Nat.le_of_ble_eq_true rfl⟩ (fun u1 H locs h hP hS => ?_)
  obtain ⟨bu1, h⟩ := h
  refine gv_if_eq (tgt := 19) F (gRb bu1) dX4_opens_4 (by decide) (fun c2 => ?_) (fun c2 => ?_)
  · have h := h.1 c2
    refine lv_aload_n F.1 F.2.1 dX4_opens_19 rfl (lv_at hl 0 rfl) ?_
    refine gv_iconst F dX4_opens_20 ?_
    refine gc_VI (As := [.int (iI (-1))]) (wn := fun u : AR => wMd cy ad o ss mm im wa le ro u fa nu) F hK hA hP hD hS hP hD (fun u H1 _ h1 h2 => ⟨h1, h2⟩) (c_X4_no l D cy ad o ss mm im wa le ro re fa nu (-1) _ h) (cwV 1 F.2.2.2.2 (gG_V k812 k814 k34 k67 k815) rfl rfl rfl hd_X4_no ⟨Nat.le_of_ble_eq_true rfl, Nat.le_of_ble_eq_true rfl⟩) rfl rfl dX4_opens_21 rfl rfl hl.1 (Nat.le_of_ble_eq_true rfl) ⟨Nat.le_of_ble_eq_true rfl, Nat.le_of_ble_eq_true rfl⟩ (fun u4 z3 H locs h hP hD hS => ?_)
    try dsimp only at h hP hD
    exact ret u4 (ss, z3) H locs 24 ls h rfl hP hD hS dX4_opens_24
  · have h := h.2 c2
    refine lv_iload_n F.1 F.2.1 dX4_opens_7 rfl (lv_at hl 2 rfl) ?_
    refine gc_SR (As := [.int (iI x2)]) F hK hA hP hS gPnil (c_X4_isRoom l D cy x2 _ h) (cwS 1 F.2.2.2.2 (gG_S k849 k850 k67 k851) rfl rfl rfl hd_X4_isRoom ⟨Nat.le_of_ble_eq_true rfl, Nat.le_of_ble_eq_true rfl⟩) dX4_opens_8 rfl rfl hl.1 (Nat.le_of_ble_eq_true rfl) ⟨Nat.le_of_ble_eq_true rfl, Nat.le_of_ble_eq_true rfl⟩ (fun u5 H locs h hP hS => ?_)
    obtain ⟨bu5, h⟩ := h
    refine gv_if_eq (tgt := 19) F (gRb bu5) dX4_opens_11 (by decide) (fun c6 => ?_) (fun c6 => ?_)
    · have h := h.1 c6
      refine lv_aload_n F.1 F.2.1 dX4_opens_19 rfl (lv_at hl 0 rfl) ?_
      refine gv_iconst F dX4_opens_20 ?_
      refine gc_VI (As := [.int (iI (-1))]) (wn := fun u : AR => wMd cy ad o ss mm im wa le ro u fa nu) F hK hA hP hD hS hP hD (fun u H1 _ h1 h2 => ⟨h1, h2⟩) (c_X4_no l D cy ad o ss mm im wa le ro re fa nu (-1) _ h) (cwV 1 F.2.2.2.2 (gG_V k812 k814 k34 k67 k815) rfl rfl rfl hd_X4_no ⟨Nat.le_of_ble_eq_true rfl, Nat.le_of_ble_eq_true rfl⟩) rfl rfl dX4_opens_21 rfl rfl hl.1 (Nat.le_of_ble_eq_true rfl) ⟨Nat.le_of_ble_eq_true rfl, Nat.le_of_ble_eq_true rfl⟩ (fun u8 z7 H locs h hP hD hS => ?_)
      try dsimp only at h hP hD
      exact ret u8 (ss, z7) H locs 24 ls h rfl hP hD hS dX4_opens_24
    · have h := h.2 c6
      refine lv_iload_n F.1 F.2.1 dX4_opens_14 rfl (lv_at hl 1 rfl) ?_
      refine lv_iload_n F.1 F.2.1 dX4_opens_15 rfl (lv_at hl 2 rfl) ?_
      obtain ⟨g9, h⟩ := h
      obtain ⟨g10, h⟩ := h
      refine gv_icmp_ne (tgt := 25) F g9 g10 dX4_opens_16 (by decide) (fun c11 => ?_) (fun c11 => ?_)
      · have h := h.1 c11
        refine lv_aload_n F.1 F.2.1 dX4_opens_25 rfl (lv_at hl 0 rfl) ?_
        refine lv_iload_n F.1 F.2.1 dX4_opens_26 rfl (lv_at hl 1 rfl) ?_
        refine lv_iload_n F.1 F.2.1 dX4_opens_27 rfl (lv_at hl 2 rfl) ?_
        refine gc_VV (As := [.int (iI x1), .int (iI x2)]) (wn := fun u : AR => wMd cy ad o u mm im wa le ro re fa nu) F hK hA hP hD hS hP hD (fun u H1 _ h1 h2 => ⟨h1, h2⟩) (c_X4_turnsDoor l D cy ad o ss mm im wa le ro re fa nu x1 x2 _ h) (cwV 2 F.2.2.2.2 (gG_V k852 k854 k40 k67 k855) rfl rfl rfl hd_X4_turnsDoor ⟨Nat.le_of_ble_eq_true rfl, Nat.le_of_ble_eq_true rfl⟩) rfl rfl dX4_opens_28 rfl rfl hl.1 (Nat.le_of_ble_eq_true rfl) ⟨Nat.le_of_ble_eq_true rfl, Nat.le_of_ble_eq_true rfl⟩ (fun z12 H locs h hP hD hS => ?_)
        try dsimp only at h hP hD
        refine lv_aload_n F.1 F.2.1 dX4_opens_31 rfl (lv_at hl 0 rfl) ?_
        refine gv_get F hin4 hK hP 0 rfl rfl 0 (by decide) k756 rfl dX4_opens_32 ?_
        refine gv_iconst F dX4_opens_35 ?_
        refine lv_iload_n F.1 F.2.1 dX4_opens_36 rfl (lv_at hl 1 rfl) ?_
        refine gv_iadd F dX4_opens_37 ?_
        obtain ⟨g13, h⟩ := h
        refine gv_iald (n := 147) (g := z12) F hK hP 1 rfl rfl (by decide) g13 dX4_opens_38 ?_
        refine lv_iload_n F.1 F.2.1 dX4_opens_39 rfl (lv_at hl 2 rfl) ?_
        obtain ⟨g14, h⟩ := h
        obtain ⟨g15, h⟩ := h
        refine gv_ishr F g14 g15 dX4_opens_40 ?_
        refine gv_iconst F dX4_opens_41 ?_
        refine gv_iand F 1 (by decide) (by decide) dX4_opens_42 ?_
        exact ret (((z12 (3 + x1)) / 2 ^ (x2 : Int).toNat) % (1 + 1)) (z12, re) H locs 43 ls h rfl hP hD hS dX4_opens_43
      · have h := h.2 c11
        refine lv_aload_n F.1 F.2.1 dX4_opens_19 rfl (lv_at hl 0 rfl) ?_
        refine gv_iconst F dX4_opens_20 ?_
        refine gc_VI (As := [.int (iI (-1))]) (wn := fun u : AR => wMd cy ad o ss mm im wa le ro u fa nu) F hK hA hP hD hS hP hD (fun u H1 _ h1 h2 => ⟨h1, h2⟩) (c_X4_no l D cy ad o ss mm im wa le ro re fa nu (-1) _ h) (cwV 1 F.2.2.2.2 (gG_V k812 k814 k34 k67 k815) rfl rfl rfl hd_X4_no ⟨Nat.le_of_ble_eq_true rfl, Nat.le_of_ble_eq_true rfl⟩) rfl rfl dX4_opens_21 rfl rfl hl.1 (Nat.le_of_ble_eq_true rfl) ⟨Nat.le_of_ble_eq_true rfl, Nat.le_of_ble_eq_true rfl⟩ (fun u17 z16 H locs h hP hD hS => ?_)
        try dsimp only at h hP hD
        exact ret u17 (ss, z16) H locs 24 ls h rfl hP hD hS dX4_opens_24
abbrev rX4_put : Room := { frames := 2, cells := 0, slots := 0, locals := 43 }
set_option maxHeartbeats 4000000 in
set_option maxRecDepth 20000 in
theorem c_X4_put (l : Launch) (D : va_G) (cy : ClassId) (ad : Nat → Nat) (o : AR) (ss : AR) (mm : AR) (im : AR) (wa : AR) (le : AR) (ro : AR) (re : AR) (fa : AR) (nu : AR) (x1 x2 : Int) (Q : Int → AR → AR → Prop) (h : wX4_put ss re x1 x2 Q) : MetI l yX4_put (wT yX4_put cX4_put 4 (some .int)) rX4_put D cy [.ref (ad 0), .int (iI x1), .int (iI x2)] (wMd cy ad o ss mm im wa le ro re fa nu) (fun u : AR × AR => wMd cy ad o u.1 mm im wa le ro u.2 fa nu) (fun r u => Q r u.1 u.2) := by
  refine gI_I (by decide) (Nat.le_of_ble_eq_true rfl) ?_
  intro p e s m args below meth c A Qg F hK hA ret H locs ls hl hP hD hS
  have F : CallFix p m c cX4_put 4 s args gT RX4 := F
  have hl : lv_has ls 4 [(0, .ref (ad 0)), (1, .int (iI x1)), (2, .int (iI x2))] := hl
  refine lv_aload_n F.1 F.2.1 dX4_put_0 rfl (lv_at hl 0 rfl) ?_
  refine lv_iload_n F.1 F.2.1 dX4_put_1 rfl (lv_at hl 1 rfl) ?_
  refine gc_VR (As := [.int (iI x1)]) F hK hA hP hS hP (c_X4_isGroup l D cy ad o ss mm im wa le ro re fa nu x1 _ h) (cwV 1 F.2.2.2.2 (gG_V k865 k867 k41 k67 k868) rfl rfl rfl hd_X4_isGroup ⟨Nat.le_of_ble_eq_true rfl, Nat.le_of_ble_eq_true rfl⟩) rfl rfl dX4_put_2 rfl rfl hl.1 (Nat.le_of_ble_eq_true rfl) ⟨Nat.le_of_ble_eq_true rfl, Nat.le_of_ble_eq_true rfl⟩ (fun u1 H locs h hP hS => ?_)
  obtain ⟨bu1, h⟩ := h
  refine gv_if_eq (tgt := 15) F (gRb bu1) dX4_put_5 (by decide) (fun c2 => ?_) (fun c2 => ?_)
  · have h := h.1 c2
    refine lv_aload_n F.1 F.2.1 dX4_put_15 rfl (lv_at hl 0 rfl) ?_
    refine gv_iconst F dX4_put_16 ?_
    refine gc_VI (As := [.int (iI (-1))]) (wn := fun u : AR => wMd cy ad o ss mm im wa le ro u fa nu) F hK hA hP hD hS hP hD (fun u H1 _ h1 h2 => ⟨h1, h2⟩) (c_X4_no l D cy ad o ss mm im wa le ro re fa nu (-1) _ h) (cwV 1 F.2.2.2.2 (gG_V k812 k814 k34 k67 k815) rfl rfl rfl hd_X4_no ⟨Nat.le_of_ble_eq_true rfl, Nat.le_of_ble_eq_true rfl⟩) rfl rfl dX4_put_17 rfl rfl hl.1 (Nat.le_of_ble_eq_true rfl) ⟨Nat.le_of_ble_eq_true rfl, Nat.le_of_ble_eq_true rfl⟩ (fun u4 z3 H locs h hP hD hS => ?_)
    try dsimp only at h hP hD
    exact ret u4 (ss, z3) H locs 20 ls h rfl hP hD hS dX4_put_20
  · have h := h.2 c2
    refine lv_iload_n F.1 F.2.1 dX4_put_8 rfl (lv_at hl 2 rfl) ?_
    refine gc_SR (As := [.int (iI x2)]) F hK hA hP hS gPnil (c_X4_isRoom l D cy x2 _ h) (cwS 1 F.2.2.2.2 (gG_S k849 k850 k67 k851) rfl rfl rfl hd_X4_isRoom ⟨Nat.le_of_ble_eq_true rfl, Nat.le_of_ble_eq_true rfl⟩) dX4_put_9 rfl rfl hl.1 (Nat.le_of_ble_eq_true rfl) ⟨Nat.le_of_ble_eq_true rfl, Nat.le_of_ble_eq_true rfl⟩ (fun u5 H locs h hP hS => ?_)
    obtain ⟨bu5, h⟩ := h
    refine gv_if_ne (tgt := 21) F (gRb bu5) dX4_put_12 (by decide) (fun c6 => ?_) (fun c6 => ?_)
    · have h := h.1 c6
      refine lv_aload_n F.1 F.2.1 dX4_put_21 rfl (lv_at hl 0 rfl) ?_
      refine gv_get F hin4 hK hP 0 rfl rfl 0 (by decide) k756 rfl dX4_put_22 ?_
      refine lv_iload_n F.1 F.2.1 dX4_put_25 rfl (lv_at hl 1 rfl) ?_
      refine gv_iconst F dX4_put_26 ?_
      refine gc_SR (As := [.int (iI x1), .int (iI 3)]) F hK hA hP hS gPnil (c_X4_of l D cy x1 3 _ h) (cwS 2 F.2.2.2.2 (gG_S k862 k863 k67 k864) rfl rfl rfl hd_X4_of ⟨Nat.le_of_ble_eq_true rfl, Nat.le_of_ble_eq_true rfl⟩) dX4_put_27 rfl rfl hl.1 (Nat.le_of_ble_eq_true rfl) ⟨Nat.le_of_ble_eq_true rfl, Nat.le_of_ble_eq_true rfl⟩ (fun u7 H locs h hP hS => ?_)
      obtain ⟨g8, h⟩ := h
      refine gv_iald (n := 147) (g := ss) F hK hP 1 rfl rfl (by decide) g8 dX4_put_30 ?_
      refine gv_name (fun v9 ev9 => ?_)
      have h := h v9 ev9
      refine lv_istore_n (lv' := [(3, .int (iI v9)), (0, .ref (ad 0)), (1, .int (iI x1)), (2, .int (iI x2))]) F.1 F.2.1 dX4_put_31 rfl hl (by decide) rfl (fun ls hl => ?_)
      refine lv_aload_n F.1 F.2.1 dX4_put_32 rfl (lv_at hl 1 rfl) ?_
      refine gv_get F hin4 hK hP 0 rfl rfl 0 (by decide) k756 rfl dX4_put_33 ?_
      refine lv_iload_n F.1 F.2.1 dX4_put_36 rfl (lv_at hl 2 rfl) ?_
      refine gv_iconst F dX4_put_37 ?_
      refine gc_SR (As := [.int (iI x1), .int (iI 3)]) F hK hA hP hS gPnil (c_X4_of l D cy x1 3 _ h) (cwS 2 F.2.2.2.2 (gG_S k862 k863 k67 k864) rfl rfl rfl hd_X4_of ⟨Nat.le_of_ble_eq_true rfl, Nat.le_of_ble_eq_true rfl⟩) dX4_put_38 rfl rfl hl.1 (Nat.le_of_ble_eq_true rfl) ⟨Nat.le_of_ble_eq_true rfl, Nat.le_of_ble_eq_true rfl⟩ (fun u10 H locs h hP hS => ?_)
      refine lv_iload_n F.1 F.2.1 dX4_put_41 rfl (lv_at hl 3 rfl) ?_
      obtain ⟨g11, h⟩ := h
      obtain ⟨z12, ez12⟩ : ∃ z : AR, z = su ss u10 x2 := ⟨_, rfl⟩
      have h := h z12 ez12
      refine gv_iast (n := 147) (g := ss) (ws' := wMd cy ad o z12 mm im wa le ro re fa nu) F hK hP hD hS 1 rfl rfl (by decide) g11 (by subst ez12; exact rfl) dX4_put_42 (fun H locs hP hD hS => ?_)
      refine lv_aload_n F.1 F.2.1 dX4_put_43 rfl (lv_at hl 1 rfl) ?_
      refine gv_get F hin4 hK hP 0 rfl rfl 0 (by decide) k756 rfl dX4_put_44 ?_
      refine lv_iload_n F.1 F.2.1 dX4_put_47 rfl (lv_at hl 2 rfl) ?_
      refine gv_iconst F dX4_put_48 ?_
      refine gc_SR (As := [.int (iI x1), .int (iI 4)]) F hK hA hP hS gPnil (c_X4_of l D cy x1 4 _ h) (cwS 2 F.2.2.2.2 (gG_S k862 k863 k67 k864) rfl rfl rfl hd_X4_of ⟨Nat.le_of_ble_eq_true rfl, Nat.le_of_ble_eq_true rfl⟩) dX4_put_49 rfl rfl hl.1 (Nat.le_of_ble_eq_true rfl) ⟨Nat.le_of_ble_eq_true rfl, Nat.le_of_ble_eq_true rfl⟩ (fun u13 H locs h hP hS => ?_)
      refine gv_iconst F dX4_put_52 ?_
      obtain ⟨g14, h⟩ := h
      obtain ⟨z15, ez15⟩ : ∃ z : AR, z = su z12 u13 0 := ⟨_, rfl⟩
      have h := h z15 ez15
      refine gv_iast (n := 147) (g := z12) (ws' := wMd cy ad o z15 mm im wa le ro re fa nu) F hK hP hD hS 1 rfl rfl (by decide) g14 (by subst ez15; exact rfl) dX4_put_53 (fun H locs hP hD hS => ?_)
      refine lv_iload_n F.1 F.2.1 dX4_put_54 rfl (lv_at hl 0 rfl) ?_
      exact ret v9 (z15, re) H locs 55 ls h rfl hP hD hS dX4_put_55
    · have h := h.2 c6
      refine lv_aload_n F.1 F.2.1 dX4_put_15 rfl (lv_at hl 0 rfl) ?_
      refine gv_iconst F dX4_put_16 ?_
      refine gc_VI (As := [.int (iI (-1))]) (wn := fun u : AR => wMd cy ad o ss mm im wa le ro u fa nu) F hK hA hP hD hS hP hD (fun u H1 _ h1 h2 => ⟨h1, h2⟩) (c_X4_no l D cy ad o ss mm im wa le ro re fa nu (-1) _ h) (cwV 1 F.2.2.2.2 (gG_V k812 k814 k34 k67 k815) rfl rfl rfl hd_X4_no ⟨Nat.le_of_ble_eq_true rfl, Nat.le_of_ble_eq_true rfl⟩) rfl rfl dX4_put_17 rfl rfl hl.1 (Nat.le_of_ble_eq_true rfl) ⟨Nat.le_of_ble_eq_true rfl, Nat.le_of_ble_eq_true rfl⟩ (fun u17 z16 H locs h hP hD hS => ?_)
      try dsimp only at h hP hD
      exact ret u17 (ss, z16) H locs 20 ls h rfl hP hD hS dX4_put_20
abbrev rX4_start : Room := { frames := 2, cells := 0, slots := 0, locals := 43 }
set_option maxHeartbeats 4000000 in
set_option maxRecDepth 20000 in
theorem c_X4_start (l : Launch) (D : va_G) (cy : ClassId) (ad : Nat → Nat) (o : AR) (ss : AR) (mm : AR) (im : AR) (wa : AR) (le : AR) (ro : AR) (re : AR) (fa : AR) (nu : AR) (x1 x2 : Int) (Q : Int → AR → AR → Prop) (h : wX4_start ss re x1 x2 Q) : MetI l yX4_start (wT yX4_start cX4_start 4 (some .int)) rX4_start D cy [.ref (ad 0), .int (iI x1), .int (iI x2)] (wMd cy ad o ss mm im wa le ro re fa nu) (fun u : AR × AR => wMd cy ad o u.1 mm im wa le ro u.2 fa nu) (fun r u => Q r u.1 u.2) := by
  refine gI_I (by decide) (Nat.le_of_ble_eq_true rfl) ?_
  intro p e s m args below meth c A Qg F hK hA ret H locs ls hl hP hD hS
  have F : CallFix p m c cX4_start 4 s args gT RX4 := F
  have hl : lv_has ls 4 [(0, .ref (ad 0)), (1, .int (iI x1)), (2, .int (iI x2))] := hl
  refine lv_aload_n F.1 F.2.1 dX4_start_0 rfl (lv_at hl 0 rfl) ?_
  refine lv_iload_n F.1 F.2.1 dX4_start_1 rfl (lv_at hl 1 rfl) ?_
  refine gc_VR (As := [.int (iI x1)]) F hK hA hP hS hP (c_X4_isGroup l D cy ad o ss mm im wa le ro re fa nu x1 _ h) (cwV 1 F.2.2.2.2 (gG_V k865 k867 k41 k67 k868) rfl rfl rfl hd_X4_isGroup ⟨Nat.le_of_ble_eq_true rfl, Nat.le_of_ble_eq_true rfl⟩) rfl rfl dX4_start_2 rfl rfl hl.1 (Nat.le_of_ble_eq_true rfl) ⟨Nat.le_of_ble_eq_true rfl, Nat.le_of_ble_eq_true rfl⟩ (fun u1 H locs h hP hS => ?_)
  obtain ⟨bu1, h⟩ := h
  refine gv_if_ne (tgt := 14) F (gRb bu1) dX4_start_5 (by decide) (fun c2 => ?_) (fun c2 => ?_)
  · have h := h.1 c2
    refine lv_iload_n F.1 F.2.1 dX4_start_14 rfl (lv_at hl 2 rfl) ?_
    obtain ⟨g3, h⟩ := h
    refine gv_if_ge (tgt := 25) F g3 dX4_start_15 (by decide) (fun c4 => ?_) (fun c4 => ?_)
    · have h := h.1 c4
      refine lv_iload_n F.1 F.2.1 dX4_start_25 rfl (lv_at hl 2 rfl) ?_
      refine gv_bipush F ⟨by decide, by decide⟩ dX4_start_26 ?_
      refine gv_icmp_le (tgt := 38) F g3 ⟨by decide, by decide⟩ dX4_start_28 (by decide) (fun c5 => ?_) (fun c5 => ?_)
      · have h := h.1 c5
        refine lv_aload_n F.1 F.2.1 dX4_start_38 rfl (lv_at hl 0 rfl) ?_
        refine gv_get F hin4 hK hP 0 rfl rfl 0 (by decide) k756 rfl dX4_start_39 ?_
        refine lv_iload_n F.1 F.2.1 dX4_start_42 rfl (lv_at hl 1 rfl) ?_
        refine gv_iconst F dX4_start_43 ?_
        refine gc_SR (As := [.int (iI x1), .int (iI 2)]) F hK hA hP hS gPnil (c_X4_of l D cy x1 2 _ h) (cwS 2 F.2.2.2.2 (gG_S k862 k863 k67 k864) rfl rfl rfl hd_X4_of ⟨Nat.le_of_ble_eq_true rfl, Nat.le_of_ble_eq_true rfl⟩) dX4_start_44 rfl rfl hl.1 (Nat.le_of_ble_eq_true rfl) ⟨Nat.le_of_ble_eq_true rfl, Nat.le_of_ble_eq_true rfl⟩ (fun u6 H locs h hP hS => ?_)
        obtain ⟨g7, h⟩ := h
        refine gv_iald (n := 147) (g := ss) F hK hP 1 rfl rfl (by decide) g7 dX4_start_47 ?_
        refine gv_name (fun v8 ev8 => ?_)
        have h := h v8 ev8
        refine lv_istore_n (lv' := [(3, .int (iI v8)), (0, .ref (ad 0)), (1, .int (iI x1)), (2, .int (iI x2))]) F.1 F.2.1 dX4_start_48 rfl hl (by decide) rfl (fun ls hl => ?_)
        refine lv_aload_n F.1 F.2.1 dX4_start_49 rfl (lv_at hl 1 rfl) ?_
        refine gv_get F hin4 hK hP 0 rfl rfl 0 (by decide) k756 rfl dX4_start_50 ?_
        refine lv_iload_n F.1 F.2.1 dX4_start_53 rfl (lv_at hl 2 rfl) ?_
        refine gv_iconst F dX4_start_54 ?_
        refine gc_SR (As := [.int (iI x1), .int (iI 2)]) F hK hA hP hS gPnil (c_X4_of l D cy x1 2 _ h) (cwS 2 F.2.2.2.2 (gG_S k862 k863 k67 k864) rfl rfl rfl hd_X4_of ⟨Nat.le_of_ble_eq_true rfl, Nat.le_of_ble_eq_true rfl⟩) dX4_start_55 rfl rfl hl.1 (Nat.le_of_ble_eq_true rfl) ⟨Nat.le_of_ble_eq_true rfl, Nat.le_of_ble_eq_true rfl⟩ (fun u9 H locs h hP hS => ?_)
        refine lv_iload_n F.1 F.2.1 dX4_start_58 rfl (lv_at hl 3 rfl) ?_
        obtain ⟨g10, h⟩ := h
        obtain ⟨z11, ez11⟩ : ∃ z : AR, z = su ss u9 x2 := ⟨_, rfl⟩
        have h := h z11 ez11
        refine gv_iast (n := 147) (g := ss) (ws' := wMd cy ad o z11 mm im wa le ro re fa nu) F hK hP hD hS 1 rfl rfl (by decide) g10 (by subst ez11; exact rfl) dX4_start_59 (fun H locs hP hD hS => ?_)
        refine lv_iload_n F.1 F.2.1 dX4_start_60 rfl (lv_at hl 0 rfl) ?_
        exact ret v8 (z11, re) H locs 61 ls h rfl hP hD hS dX4_start_61
      · have h := h.2 c5
        refine lv_aload_n F.1 F.2.1 dX4_start_31 rfl (lv_at hl 0 rfl) ?_
        refine gv_bipush F ⟨by decide, by decide⟩ dX4_start_32 ?_
        refine gc_VI (As := [.int (iI (-6))]) (wn := fun u : AR => wMd cy ad o ss mm im wa le ro u fa nu) F hK hA hP hD hS hP hD (fun u H1 _ h1 h2 => ⟨h1, h2⟩) (c_X4_no l D cy ad o ss mm im wa le ro re fa nu (-6) _ h) (cwV 1 F.2.2.2.2 (gG_V k812 k814 k34 k67 k815) rfl rfl rfl hd_X4_no ⟨Nat.le_of_ble_eq_true rfl, Nat.le_of_ble_eq_true rfl⟩) rfl rfl dX4_start_34 rfl rfl hl.1 (Nat.le_of_ble_eq_true rfl) ⟨Nat.le_of_ble_eq_true rfl, Nat.le_of_ble_eq_true rfl⟩ (fun u13 z12 H locs h hP hD hS => ?_)
        try dsimp only at h hP hD
        exact ret u13 (ss, z12) H locs 37 ls h rfl hP hD hS dX4_start_37
    · have h := h.2 c4
      refine lv_aload_n F.1 F.2.1 dX4_start_18 rfl (lv_at hl 0 rfl) ?_
      refine gv_bipush F ⟨by decide, by decide⟩ dX4_start_19 ?_
      refine gc_VI (As := [.int (iI (-4))]) (wn := fun u : AR => wMd cy ad o ss mm im wa le ro u fa nu) F hK hA hP hD hS hP hD (fun u H1 _ h1 h2 => ⟨h1, h2⟩) (c_X4_no l D cy ad o ss mm im wa le ro re fa nu (-4) _ h) (cwV 1 F.2.2.2.2 (gG_V k812 k814 k34 k67 k815) rfl rfl rfl hd_X4_no ⟨Nat.le_of_ble_eq_true rfl, Nat.le_of_ble_eq_true rfl⟩) rfl rfl dX4_start_21 rfl rfl hl.1 (Nat.le_of_ble_eq_true rfl) ⟨Nat.le_of_ble_eq_true rfl, Nat.le_of_ble_eq_true rfl⟩ (fun u15 z14 H locs h hP hD hS => ?_)
      try dsimp only at h hP hD
      exact ret u15 (ss, z14) H locs 24 ls h rfl hP hD hS dX4_start_24
  · have h := h.2 c2
    refine lv_aload_n F.1 F.2.1 dX4_start_8 rfl (lv_at hl 0 rfl) ?_
    refine gv_iconst F dX4_start_9 ?_
    refine gc_VI (As := [.int (iI (-1))]) (wn := fun u : AR => wMd cy ad o ss mm im wa le ro u fa nu) F hK hA hP hD hS hP hD (fun u H1 _ h1 h2 => ⟨h1, h2⟩) (c_X4_no l D cy ad o ss mm im wa le ro re fa nu (-1) _ h) (cwV 1 F.2.2.2.2 (gG_V k812 k814 k34 k67 k815) rfl rfl rfl hd_X4_no ⟨Nat.le_of_ble_eq_true rfl, Nat.le_of_ble_eq_true rfl⟩) rfl rfl dX4_start_10 rfl rfl hl.1 (Nat.le_of_ble_eq_true rfl) ⟨Nat.le_of_ble_eq_true rfl, Nat.le_of_ble_eq_true rfl⟩ (fun u17 z16 H locs h hP hD hS => ?_)
    try dsimp only at h hP hD
    exact ret u17 (ss, z16) H locs 13 ls h rfl hP hD hS dX4_start_13
abbrev rX4_write : Room := { frames := 2, cells := 0, slots := 0, locals := 43 }
set_option maxHeartbeats 4000000 in
set_option maxRecDepth 20000 in
theorem c_X4_write (l : Launch) (D : va_G) (cy : ClassId) (ad : Nat → Nat) (o : AR) (ss : AR) (mm : AR) (im : AR) (wa : AR) (le : AR) (ro : AR) (re : AR) (fa : AR) (nu : AR) (x1 x2 x3 : Int) (Q : Int → AR → AR → Prop) (h : wX4_write ss re x1 x2 x3 Q) : MetI l yX4_write (wT yX4_write cX4_write 5 (some .int)) rX4_write D cy [.ref (ad 0), .int (iI x1), .int (iI x2), .int (iI x3)] (wMd cy ad o ss mm im wa le ro re fa nu) (fun u : AR × AR => wMd cy ad o u.1 mm im wa le ro u.2 fa nu) (fun r u => Q r u.1 u.2) := by
  refine gI_I (by decide) (Nat.le_of_ble_eq_true rfl) ?_
  intro p e s m args below meth c A Qg F hK hA ret H locs ls hl hP hD hS
  have F : CallFix p m c cX4_write 5 s args gT RX4 := F
  have hl : lv_has ls 5 [(0, .ref (ad 0)), (1, .int (iI x1)), (2, .int (iI x2)), (3, .int (iI x3))] := hl
  refine lv_aload_n F.1 F.2.1 dX4_write_0 rfl (lv_at hl 0 rfl) ?_
  refine lv_iload_n F.1 F.2.1 dX4_write_1 rfl (lv_at hl 1 rfl) ?_
  refine gc_VR (As := [.int (iI x1)]) F hK hA hP hS hP (c_X4_isGroup l D cy ad o ss mm im wa le ro re fa nu x1 _ h) (cwV 1 F.2.2.2.2 (gG_V k865 k867 k41 k67 k868) rfl rfl rfl hd_X4_isGroup ⟨Nat.le_of_ble_eq_true rfl, Nat.le_of_ble_eq_true rfl⟩) rfl rfl dX4_write_2 rfl rfl hl.1 (Nat.le_of_ble_eq_true rfl) ⟨Nat.le_of_ble_eq_true rfl, Nat.le_of_ble_eq_true rfl⟩ (fun u1 H locs h hP hS => ?_)
  obtain ⟨bu1, h⟩ := h
  refine gv_if_eq (tgt := 16) F (gRb bu1) dX4_write_5 (by decide) (fun c2 => ?_) (fun c2 => ?_)
  · have h := h.1 c2
    refine lv_aload_n F.1 F.2.1 dX4_write_16 rfl (lv_at hl 0 rfl) ?_
    refine gv_iconst F dX4_write_17 ?_
    refine gc_VI (As := [.int (iI (-1))]) (wn := fun u : AR => wMd cy ad o ss mm im wa le ro u fa nu) F hK hA hP hD hS hP hD (fun u H1 _ h1 h2 => ⟨h1, h2⟩) (c_X4_no l D cy ad o ss mm im wa le ro re fa nu (-1) _ h) (cwV 1 F.2.2.2.2 (gG_V k812 k814 k34 k67 k815) rfl rfl rfl hd_X4_no ⟨Nat.le_of_ble_eq_true rfl, Nat.le_of_ble_eq_true rfl⟩) rfl rfl dX4_write_18 rfl rfl hl.1 (Nat.le_of_ble_eq_true rfl) ⟨Nat.le_of_ble_eq_true rfl, Nat.le_of_ble_eq_true rfl⟩ (fun u4 z3 H locs h hP hD hS => ?_)
    try dsimp only at h hP hD
    exact ret u4 (ss, z3) H locs 21 ls h rfl hP hD hS dX4_write_21
  · have h := h.2 c2
    refine lv_aload_n F.1 F.2.1 dX4_write_8 rfl (lv_at hl 0 rfl) ?_
    refine lv_iload_n F.1 F.2.1 dX4_write_9 rfl (lv_at hl 2 rfl) ?_
    refine gc_VR (As := [.int (iI x2)]) F hK hA hP hS hP (c_X4_isQuestion l D cy ad o ss mm im wa le ro re fa nu x2 _ h) (cwV 1 F.2.2.2.2 (gG_V k869 k871 k42 k67 k872) rfl rfl rfl hd_X4_isQuestion ⟨Nat.le_of_ble_eq_true rfl, Nat.le_of_ble_eq_true rfl⟩) rfl rfl dX4_write_10 rfl rfl hl.1 (Nat.le_of_ble_eq_true rfl) ⟨Nat.le_of_ble_eq_true rfl, Nat.le_of_ble_eq_true rfl⟩ (fun u5 H locs h hP hS => ?_)
    obtain ⟨bu5, h⟩ := h
    refine gv_if_ne (tgt := 22) F (gRb bu5) dX4_write_13 (by decide) (fun c6 => ?_) (fun c6 => ?_)
    · have h := h.1 c6
      refine lv_iload_n F.1 F.2.1 dX4_write_22 rfl (lv_at hl 3 rfl) ?_
      obtain ⟨g7, h⟩ := h
      refine gv_if_ge (tgt := 33) F g7 dX4_write_23 (by decide) (fun c8 => ?_) (fun c8 => ?_)
      · have h := h.1 c8
        refine lv_iload_n F.1 F.2.1 dX4_write_33 rfl (lv_at hl 3 rfl) ?_
        refine gv_bipush F ⟨by decide, by decide⟩ dX4_write_34 ?_
        refine gv_icmp_le (tgt := 46) F g7 ⟨by decide, by decide⟩ dX4_write_36 (by decide) (fun c9 => ?_) (fun c9 => ?_)
        · have h := h.1 c9
          refine lv_aload_n F.1 F.2.1 dX4_write_46 rfl (lv_at hl 0 rfl) ?_
          refine gv_get F hin4 hK hP 0 rfl rfl 0 (by decide) k756 rfl dX4_write_47 ?_
          refine lv_iload_n F.1 F.2.1 dX4_write_50 rfl (lv_at hl 1 rfl) ?_
          refine lv_iload_n F.1 F.2.1 dX4_write_51 rfl (lv_at hl 2 rfl) ?_
          refine gc_SR (As := [.int (iI x1), .int (iI x2)]) F hK hA hP hS gPnil (c_X4_sheetOf l D cy x1 x2 _ h) (cwS 2 F.2.2.2.2 (gG_S k859 k860 k67 k861) rfl rfl rfl hd_X4_sheetOf ⟨Nat.le_of_ble_eq_true rfl, Nat.le_of_ble_eq_true rfl⟩) dX4_write_52 rfl rfl hl.1 (Nat.le_of_ble_eq_true rfl) ⟨Nat.le_of_ble_eq_true rfl, Nat.le_of_ble_eq_true rfl⟩ (fun u10 H locs h hP hS => ?_)
          obtain ⟨g11, h⟩ := h
          refine gv_iald (n := 147) (g := ss) F hK hP 1 rfl rfl (by decide) g11 dX4_write_55 ?_
          refine gv_name (fun v12 ev12 => ?_)
          have h := h v12 ev12
          refine lv_istore (lv' := [(4, .int (iI v12)), (0, .ref (ad 0)), (1, .int (iI x1)), (2, .int (iI x2)), (3, .int (iI x3))]) F.1 F.2.1 dX4_write_56 hl (by decide) rfl (fun ls hl => ?_)
          refine lv_aload_n F.1 F.2.1 dX4_write_58 rfl (lv_at hl 1 rfl) ?_
          refine gv_get F hin4 hK hP 0 rfl rfl 0 (by decide) k756 rfl dX4_write_59 ?_
          refine lv_iload_n F.1 F.2.1 dX4_write_62 rfl (lv_at hl 2 rfl) ?_
          refine lv_iload_n F.1 F.2.1 dX4_write_63 rfl (lv_at hl 3 rfl) ?_
          refine gc_SR (As := [.int (iI x1), .int (iI x2)]) F hK hA hP hS gPnil (c_X4_sheetOf l D cy x1 x2 _ h) (cwS 2 F.2.2.2.2 (gG_S k859 k860 k67 k861) rfl rfl rfl hd_X4_sheetOf ⟨Nat.le_of_ble_eq_true rfl, Nat.le_of_ble_eq_true rfl⟩) dX4_write_64 rfl rfl hl.1 (Nat.le_of_ble_eq_true rfl) ⟨Nat.le_of_ble_eq_true rfl, Nat.le_of_ble_eq_true rfl⟩ (fun u13 H locs h hP hS => ?_)
          refine lv_iload_n F.1 F.2.1 dX4_write_67 rfl (lv_at hl 4 rfl) ?_
          refine gv_bipush F ⟨by decide, by decide⟩ dX4_write_68 ?_
          refine gv_icmp_ne (tgt := 78) F g7 ⟨by decide, by decide⟩ dX4_write_70 (by decide) (fun c14 => ?_) (fun c14 => ?_)
          · have h := h.1 c14
            refine lv_iload_n F.1 F.2.1 dX4_write_78 rfl (lv_at hl 4 rfl) ?_
            obtain ⟨g15, h⟩ := h
            obtain ⟨z16, ez16⟩ : ∃ z : AR, z = su ss u13 x3 := ⟨_, rfl⟩
            have h := h z16 ez16
            refine gv_iast (n := 147) (g := ss) (ws' := wMd cy ad o z16 mm im wa le ro re fa nu) F hK hP hD hS 1 rfl rfl (by decide) g15 (by subst ez16; exact rfl) dX4_write_79 (fun H locs hP hD hS => ?_)
            refine lv_iload F.1 F.2.1 dX4_write_80 (lv_at hl 0 rfl) ?_
            exact ret v12 (z16, re) H locs 82 ls h rfl hP hD hS dX4_write_82
          · have h := h.2 c14
            refine gv_bipush F ⟨by decide, by decide⟩ dX4_write_73 ?_
            refine lv_goto (tgt := 79) F.1 F.2.1 dX4_write_75 (by decide) ?_
            obtain ⟨g17, h⟩ := h
            obtain ⟨z18, ez18⟩ : ∃ z : AR, z = su ss u13 (-9) := ⟨_, rfl⟩
            have h := h z18 ez18
            refine gv_iast (n := 147) (g := ss) (ws' := wMd cy ad o z18 mm im wa le ro re fa nu) F hK hP hD hS 1 rfl rfl (by decide) g17 (by subst ez18; exact rfl) dX4_write_79 (fun H locs hP hD hS => ?_)
            refine lv_iload F.1 F.2.1 dX4_write_80 (lv_at hl 0 rfl) ?_
            exact ret v12 (z18, re) H locs 82 ls h rfl hP hD hS dX4_write_82
        · have h := h.2 c9
          refine lv_aload_n F.1 F.2.1 dX4_write_39 rfl (lv_at hl 0 rfl) ?_
          refine gv_bipush F ⟨by decide, by decide⟩ dX4_write_40 ?_
          refine gc_VI (As := [.int (iI (-6))]) (wn := fun u : AR => wMd cy ad o ss mm im wa le ro u fa nu) F hK hA hP hD hS hP hD (fun u H1 _ h1 h2 => ⟨h1, h2⟩) (c_X4_no l D cy ad o ss mm im wa le ro re fa nu (-6) _ h) (cwV 1 F.2.2.2.2 (gG_V k812 k814 k34 k67 k815) rfl rfl rfl hd_X4_no ⟨Nat.le_of_ble_eq_true rfl, Nat.le_of_ble_eq_true rfl⟩) rfl rfl dX4_write_42 rfl rfl hl.1 (Nat.le_of_ble_eq_true rfl) ⟨Nat.le_of_ble_eq_true rfl, Nat.le_of_ble_eq_true rfl⟩ (fun u20 z19 H locs h hP hD hS => ?_)
          try dsimp only at h hP hD
          exact ret u20 (ss, z19) H locs 45 ls h rfl hP hD hS dX4_write_45
      · have h := h.2 c8
        refine lv_aload_n F.1 F.2.1 dX4_write_26 rfl (lv_at hl 0 rfl) ?_
        refine gv_bipush F ⟨by decide, by decide⟩ dX4_write_27 ?_
        refine gc_VI (As := [.int (iI (-4))]) (wn := fun u : AR => wMd cy ad o ss mm im wa le ro u fa nu) F hK hA hP hD hS hP hD (fun u H1 _ h1 h2 => ⟨h1, h2⟩) (c_X4_no l D cy ad o ss mm im wa le ro re fa nu (-4) _ h) (cwV 1 F.2.2.2.2 (gG_V k812 k814 k34 k67 k815) rfl rfl rfl hd_X4_no ⟨Nat.le_of_ble_eq_true rfl, Nat.le_of_ble_eq_true rfl⟩) rfl rfl dX4_write_29 rfl rfl hl.1 (Nat.le_of_ble_eq_true rfl) ⟨Nat.le_of_ble_eq_true rfl, Nat.le_of_ble_eq_true rfl⟩ (fun u22 z21 H locs h hP hD hS => ?_)
        try dsimp only at h hP hD
        exact ret u22 (ss, z21) H locs 32 ls h rfl hP hD hS dX4_write_32
    · have h := h.2 c6
      refine lv_aload_n F.1 F.2.1 dX4_write_16 rfl (lv_at hl 0 rfl) ?_
      refine gv_iconst F dX4_write_17 ?_
      refine gc_VI (As := [.int (iI (-1))]) (wn := fun u : AR => wMd cy ad o ss mm im wa le ro u fa nu) F hK hA hP hD hS hP hD (fun u H1 _ h1 h2 => ⟨h1, h2⟩) (c_X4_no l D cy ad o ss mm im wa le ro re fa nu (-1) _ h) (cwV 1 F.2.2.2.2 (gG_V k812 k814 k34 k67 k815) rfl rfl rfl hd_X4_no ⟨Nat.le_of_ble_eq_true rfl, Nat.le_of_ble_eq_true rfl⟩) rfl rfl dX4_write_18 rfl rfl hl.1 (Nat.le_of_ble_eq_true rfl) ⟨Nat.le_of_ble_eq_true rfl, Nat.le_of_ble_eq_true rfl⟩ (fun u24 z23 H locs h hP hD hS => ?_)
      try dsimp only at h hP hD
      exact ret u24 (ss, z23) H locs 21 ls h rfl hP hD hS dX4_write_21
abbrev rX4_minutes : Room := { frames := 6, cells := 0, slots := 0, locals := 141 }
set_option maxHeartbeats 4000000 in
set_option maxRecDepth 20000 in
theorem c_X4_minutes (l : Launch) (D : va_G) (cy : ClassId) (ad : Nat → Nat) (o : AR) (ss : AR) (mm : AR) (im : AR) (wa : AR) (le : AR) (ro : AR) (re : AR) (fa : AR) (nu : AR) (x1 : Int) (Q : Int → AR → AR → AR → Prop) (h : wX4_minutes ss re fa x1 Q) : MetI l yX4_minutes (wT yX4_minutes cX4_minutes 2 (some .int)) rX4_minutes D cy [.ref (ad 0), .int (iI x1)] (wMd cy ad o ss mm im wa le ro re fa nu) (fun u : AR × AR × AR => wMd cy ad o u.1 mm im wa le ro u.2.1 u.2.2 nu) (fun r u => Q r u.1 u.2.1 u.2.2) := by
  refine gI_I (by decide) (Nat.le_of_ble_eq_true rfl) ?_
  intro p e s m args below meth c A Qg F hK hA ret H locs ls hl hP hD hS
  have F : CallFix p m c cX4_minutes 2 s args gT RX4 := F
  have hl : lv_has ls 2 [(0, .ref (ad 0)), (1, .int (iI x1))] := hl
  refine lv_iload_n F.1 F.2.1 dX4_minutes_0 rfl (lv_at hl 1 rfl) ?_
  refine gv_iconst F dX4_minutes_1 ?_
  obtain ⟨g1, h⟩ := h
  refine gv_icmp_ge (tgt := 12) F g1 ⟨by decide, by decide⟩ dX4_minutes_2 (by decide) (fun c2 => ?_) (fun c2 => ?_)
  · have h := h.1 c2
    refine lv_iload_n F.1 F.2.1 dX4_minutes_12 rfl (lv_at hl 1 rfl) ?_
    refine gv_bipush F ⟨by decide, by decide⟩ dX4_minutes_13 ?_
    refine gv_icmp_gt (tgt := 32) F g1 ⟨by decide, by decide⟩ dX4_minutes_15 (by decide) (fun c3 => ?_) (fun c3 => ?_)
    · have h := h.1 c3
      refine lv_aload_n F.1 F.2.1 dX4_minutes_32 rfl (lv_at hl 0 rfl) ?_
      refine gv_bipush F ⟨by decide, by decide⟩ dX4_minutes_33 ?_
      refine gc_VI (As := [.int (iI (-6))]) (wn := fun u : AR => wMd cy ad o ss mm im wa le ro u fa nu) F hK hA hP hD hS hP hD (fun u H1 _ h1 h2 => ⟨h1, h2⟩) (c_X4_no l D cy ad o ss mm im wa le ro re fa nu (-6) _ h) (cwV 1 F.2.2.2.2 (gG_V k812 k814 k34 k67 k815) rfl rfl rfl hd_X4_no ⟨Nat.le_of_ble_eq_true rfl, Nat.le_of_ble_eq_true rfl⟩) rfl rfl dX4_minutes_35 rfl rfl hl.1 (Nat.le_of_ble_eq_true rfl) ⟨Nat.le_of_ble_eq_true rfl, Nat.le_of_ble_eq_true rfl⟩ (fun u5 z4 H locs h hP hD hS => ?_)
      try dsimp only at h hP hD
      exact ret u5 (ss, z4, fa) H locs 38 ls h rfl hP hD hS dX4_minutes_38
    · have h := h.2 c3
      refine lv_aload_n F.1 F.2.1 dX4_minutes_18 rfl (lv_at hl 0 rfl) ?_
      refine gv_get F hin4 hK hP 0 rfl rfl 0 (by decide) k756 rfl dX4_minutes_19 ?_
      refine gv_iconst F dX4_minutes_22 ?_
      refine gv_iald (n := 147) (g := ss) F hK hP 1 rfl rfl (by decide) ⟨by decide, by decide⟩ dX4_minutes_23 ?_
      refine lv_iload_n F.1 F.2.1 dX4_minutes_24 rfl (lv_at hl 1 rfl) ?_
      refine gv_iadd F dX4_minutes_25 ?_
      refine gv_sipush F ⟨by decide, by decide⟩ dX4_minutes_26 ?_
      obtain ⟨g6, h⟩ := h
      refine gv_icmp_le (tgt := 39) F g6 ⟨by decide, by decide⟩ dX4_minutes_29 (by decide) (fun c7 => ?_) (fun c7 => ?_)
      · have h := h.1 c7
        refine lv_aload_n F.1 F.2.1 dX4_minutes_39 rfl (lv_at hl 0 rfl) ?_
        refine lv_aload_n F.1 F.2.1 dX4_minutes_40 rfl (lv_at hl 0 rfl) ?_
        refine gv_get F hin4 hK hP 0 rfl rfl 0 (by decide) k756 rfl dX4_minutes_41 ?_
        refine lv_iload_n F.1 F.2.1 dX4_minutes_44 rfl (lv_at hl 1 rfl) ?_
        refine gc_VV (As := [.ref (ad 1), .int (iI x1)]) (wn := fun u : AR × AR => wMd cy ad o u.2 mm im wa le ro re u.1 nu) F hK hA hP hD hS (cp_md_fs hP) (cd_md_fs hD) (fun u H1 hk h1 _ => cj_md_fs hP hD u.1 u.2 H1 hk h1) (c_X4_minutesOn l D cy ad (ad 1) o fa ss x1 _ h) (cwV 2 F.2.2.2.2 (gG_V k873 k875 k43 k67 k876) rfl rfl rfl hd_X4_minutesOn ⟨Nat.le_of_ble_eq_true rfl, Nat.le_of_ble_eq_true rfl⟩) rfl rfl dX4_minutes_45 rfl rfl hl.1 (Nat.le_of_ble_eq_true rfl) ⟨Nat.le_of_ble_eq_true rfl, Nat.le_of_ble_eq_true rfl⟩ (fun u H locs h hP hD hS => ?_)
        obtain ⟨z8, z9⟩ := u
        try dsimp only at h hP hD
        refine lv_aload_n F.1 F.2.1 dX4_minutes_48 rfl (lv_at hl 0 rfl) ?_
        refine gv_get F hin4 hK hP 0 rfl rfl 0 (by decide) k756 rfl dX4_minutes_49 ?_
        refine gc_SR (As := [.ref (ad 1)]) F hK hA hP hS (cp_md_s hP) (c_X4_rightAll l D cy (ad 1) z9 _ h) (cwS 1 F.2.2.2.2 (gG_S k949 k950 k67 k951) rfl rfl rfl hd_X4_rightAll ⟨Nat.le_of_ble_eq_true rfl, Nat.le_of_ble_eq_true rfl⟩) dX4_minutes_52 rfl rfl hl.1 (Nat.le_of_ble_eq_true rfl) ⟨Nat.le_of_ble_eq_true rfl, Nat.le_of_ble_eq_true rfl⟩ (fun u10 H locs h hP hS => ?_)
        exact ret u10 (z9, re, z8) H locs 55 ls h rfl hP hD hS dX4_minutes_55
      · have h := h.2 c7
        refine lv_aload_n F.1 F.2.1 dX4_minutes_32 rfl (lv_at hl 0 rfl) ?_
        refine gv_bipush F ⟨by decide, by decide⟩ dX4_minutes_33 ?_
        refine gc_VI (As := [.int (iI (-6))]) (wn := fun u : AR => wMd cy ad o ss mm im wa le ro u fa nu) F hK hA hP hD hS hP hD (fun u H1 _ h1 h2 => ⟨h1, h2⟩) (c_X4_no l D cy ad o ss mm im wa le ro re fa nu (-6) _ h) (cwV 1 F.2.2.2.2 (gG_V k812 k814 k34 k67 k815) rfl rfl rfl hd_X4_no ⟨Nat.le_of_ble_eq_true rfl, Nat.le_of_ble_eq_true rfl⟩) rfl rfl dX4_minutes_35 rfl rfl hl.1 (Nat.le_of_ble_eq_true rfl) ⟨Nat.le_of_ble_eq_true rfl, Nat.le_of_ble_eq_true rfl⟩ (fun u12 z11 H locs h hP hD hS => ?_)
        try dsimp only at h hP hD
        exact ret u12 (ss, z11, fa) H locs 38 ls h rfl hP hD hS dX4_minutes_38
  · have h := h.2 c2
    refine lv_aload_n F.1 F.2.1 dX4_minutes_5 rfl (lv_at hl 0 rfl) ?_
    refine gv_bipush F ⟨by decide, by decide⟩ dX4_minutes_6 ?_
    refine gc_VI (As := [.int (iI (-4))]) (wn := fun u : AR => wMd cy ad o ss mm im wa le ro u fa nu) F hK hA hP hD hS hP hD (fun u H1 _ h1 h2 => ⟨h1, h2⟩) (c_X4_no l D cy ad o ss mm im wa le ro re fa nu (-4) _ h) (cwV 1 F.2.2.2.2 (gG_V k812 k814 k34 k67 k815) rfl rfl rfl hd_X4_no ⟨Nat.le_of_ble_eq_true rfl, Nat.le_of_ble_eq_true rfl⟩) rfl rfl dX4_minutes_8 rfl rfl hl.1 (Nat.le_of_ble_eq_true rfl) ⟨Nat.le_of_ble_eq_true rfl, Nat.le_of_ble_eq_true rfl⟩ (fun u14 z13 H locs h hP hD hS => ?_)
    try dsimp only at h hP hD
    exact ret u14 (ss, z13, fa) H locs 11 ls h rfl hP hD hS dX4_minutes_11
abbrev rX4_wrongMinutes : Room := { frames := 0, cells := 0, slots := 0, locals := 0 }
set_option maxHeartbeats 4000000 in
set_option maxRecDepth 20000 in
theorem c_X4_wrongMinutes (l : Launch) (D : va_G) (cy : ClassId)   (x0 : Int) (Q : Int → Prop) (h : wX4_wrongMinutes x0 Q) : MetR l yX4_wrongMinutes (wT yX4_wrongMinutes cX4_wrongMinutes 1 (some .int)) rX4_wrongMinutes D cy [.int (iI x0)] ([]) Q := by
  refine gI_R (by decide) (Nat.le_of_ble_eq_true rfl) ?_
  intro p e s m args below meth c A Qg F hK hA ret H locs ls hl hP hS
  have F : CallFix p m c cX4_wrongMinutes 1 s args gT RX4 := F
  have hl : lv_has ls 1 [(0, .int (iI x0))] := hl
  refine lv_iload_n F.1 F.2.1 dX4_wrongMinutes_0 rfl (lv_at hl 0 rfl) ?_
  obtain ⟨g1, h⟩ := h
  refine gv_if_ge (tgt := 9) F g1 dX4_wrongMinutes_1 (by decide) (fun c2 => ?_) (fun c2 => ?_)
  · have h := h.1 c2
    refine lv_iload_n F.1 F.2.1 dX4_wrongMinutes_9 rfl (lv_at hl 0 rfl) ?_
    refine gv_bipush F ⟨by decide, by decide⟩ dX4_wrongMinutes_10 ?_
    refine gv_icmp_le (tgt := 20) F g1 ⟨by decide, by decide⟩ dX4_wrongMinutes_12 (by decide) (fun c3 => ?_) (fun c3 => ?_)
    · have h := h.1 c3
      refine gv_iconst F dX4_wrongMinutes_20 ?_
      exact ret 0 H locs 21 ls h rfl hS dX4_wrongMinutes_21
    · have h := h.2 c3
      refine gv_bipush F ⟨by decide, by decide⟩ dX4_wrongMinutes_15 ?_
      refine lv_goto (tgt := 21) F.1 F.2.1 dX4_wrongMinutes_17 (by decide) ?_
      exact ret (-6) H locs 21 ls h rfl hS dX4_wrongMinutes_21
  · have h := h.2 c2
    refine gv_bipush F ⟨by decide, by decide⟩ dX4_wrongMinutes_4 ?_
    refine lv_goto (tgt := 21) F.1 F.2.1 dX4_wrongMinutes_6 (by decide) ?_
    exact ret (-4) H locs 21 ls h rfl hS dX4_wrongMinutes_21
abbrev rX4_behind : Room := { frames := 6, cells := 0, slots := 0, locals := 141 }
set_option maxHeartbeats 4000000 in
set_option maxRecDepth 20000 in
theorem c_X4_behind (l : Launch) (D : va_G) (cy : ClassId) (ad : Nat → Nat) (o : AR) (ss : AR) (mm : AR) (im : AR) (wa : AR) (le : AR) (ro : AR) (re : AR) (fa : AR) (nu : AR) (x1 x2 x3 : Int) (Q : Int → AR → AR → AR → Prop) (h : wX4_behind ss mm re fa x1 x2 x3 Q) : MetI l yX4_behind (wT yX4_behind cX4_behind 5 (some .int)) rX4_behind D cy [.ref (ad 0), .int (iI x1), .int (iI x2), .int (iI x3)] (wMd cy ad o ss mm im wa le ro re fa nu) (fun u : AR × AR × AR => wMd cy ad o ss u.1 im wa le ro u.2.1 u.2.2 nu) (fun r u => Q r u.1 u.2.1 u.2.2) := by
  refine gI_I (by decide) (Nat.le_of_ble_eq_true rfl) ?_
  intro p e s m args below meth c A Qg F hK hA ret H locs ls hl hP hD hS
  have F : CallFix p m c cX4_behind 5 s args gT RX4 := F
  have hl : lv_has ls 5 [(0, .ref (ad 0)), (1, .int (iI x1)), (2, .int (iI x2)), (3, .int (iI x3))] := hl
  have L36 : ∀ (y1 : Int) (y2 : Int) (y3 : Int) (y4 : Int) (mm : AR) (re : AR) (fa : AR) (H : Heap) (locs : List Loc) (ls : Array Slot), wX4_behind_36 ss Q y1 y2 y3 y4 mm re fa → va_P D vwCl (wMd cy ad o ss mm im wa le ro re fa nu) H → va_D A (wMd cy ad o ss mm im wa le ro re fa nu) → va_S A s.heap H locs → lv_has ls 5 [(0, .ref (ad 0)), (1, .int (iI y1)), (2, .int (iI y2)), (3, .int (iI y3)), (4, .int (iI y4))] → W p l e rX4_behind s m args below meth c H locs 0 0 Qg (F0 m 36 ls []) := by
    intro y1 y2 y3 y4 mm re fa H locs ls h hP hD hS hl
    refine lv_iload F.1 F.2.1 dX4_behind_36 (lv_at hl 4 rfl) ?_
    obtain ⟨g1, h⟩ := h
    refine gv_if_eq (tgt := 48) F g1 dX4_behind_38 (by decide) (fun c2 => ?_) (fun c2 => ?_)
    · have h := h.1 c2
      refine lv_aload_n F.1 F.2.1 dX4_behind_48 rfl (lv_at hl 0 rfl) ?_
      refine gc_VV (As := []) (wn := fun u : AR => wMd cy ad o ss u im wa le ro re fa nu) F hK hA hP hD hS hP hD (fun u H1 _ h1 h2 => ⟨h1, h2⟩) (c_X4_begins l D cy ad o ss mm im wa le ro re fa nu _ h) (cwV 0 F.2.2.2.2 (gG_V k962 k964 k49 k67 k965) rfl rfl rfl hd_X4_begins ⟨Nat.le_of_ble_eq_true rfl, Nat.le_of_ble_eq_true rfl⟩) rfl rfl dX4_behind_49 rfl rfl hl.1 (Nat.le_of_ble_eq_true rfl) ⟨Nat.le_of_ble_eq_true rfl, Nat.le_of_ble_eq_true rfl⟩ (fun z3 H locs h hP hD hS => ?_)
      try dsimp only at h hP hD
      refine lv_aload_n F.1 F.2.1 dX4_behind_52 rfl (lv_at hl 0 rfl) ?_
      refine lv_aload_n F.1 F.2.1 dX4_behind_53 rfl (lv_at hl 0 rfl) ?_
      refine gv_get F hin4 hK hP 0 rfl rfl 1 (by decide) k757 rfl dX4_behind_54 ?_
      refine lv_iload_n F.1 F.2.1 dX4_behind_57 rfl (lv_at hl 2 rfl) ?_
      refine gc_VV (As := [.ref (ad 2), .int (iI y2)]) (wn := fun u : AR × AR => wMd cy ad o ss u.2 im wa le ro re u.1 nu) F hK hA hP hD hS (cp_md_fm hP) (cd_md_fm hD) (fun u H1 hk h1 _ => cj_md_fm hP hD u.1 u.2 H1 hk h1) (c_X4_minutesOn l D cy ad (ad 2) o fa z3 y2 _ h) (cwV 2 F.2.2.2.2 (gG_V k873 k875 k43 k67 k876) rfl rfl rfl hd_X4_minutesOn ⟨Nat.le_of_ble_eq_true rfl, Nat.le_of_ble_eq_true rfl⟩) rfl rfl dX4_behind_58 rfl rfl hl.1 (Nat.le_of_ble_eq_true rfl) ⟨Nat.le_of_ble_eq_true rfl, Nat.le_of_ble_eq_true rfl⟩ (fun u H locs h hP hD hS => ?_)
      obtain ⟨z4, z5⟩ := u
      try dsimp only at h hP hD
      refine lv_iload_n F.1 F.2.1 dX4_behind_61 rfl (lv_at hl 3 rfl) ?_
      obtain ⟨g6, h⟩ := h
      refine gv_if_ne (tgt := 78) F g6 dX4_behind_62 (by decide) (fun c7 => ?_) (fun c7 => ?_)
      · have h := h.1 c7
        refine lv_iload_n F.1 F.2.1 dX4_behind_78 rfl (lv_at hl 3 rfl) ?_
        refine gv_iconst F dX4_behind_79 ?_
        refine gv_icmp_ne (tgt := 94) F g6 ⟨by decide, by decide⟩ dX4_behind_80 (by decide) (fun c8 => ?_) (fun c8 => ?_)
        · have h := h.1 c8
          refine lv_iload_n F.1 F.2.1 dX4_behind_94 rfl (lv_at hl 3 rfl) ?_
          refine gv_iconst F dX4_behind_95 ?_
          refine gv_icmp_ne (tgt := 110) F g6 ⟨by decide, by decide⟩ dX4_behind_96 (by decide) (fun c9 => ?_) (fun c9 => ?_)
          · have h := h.1 c9
            refine lv_aload_n F.1 F.2.1 dX4_behind_110 rfl (lv_at hl 0 rfl) ?_
            refine gv_get F hin4 hK hP 0 rfl rfl 1 (by decide) k757 rfl dX4_behind_111 ?_
            refine lv_iload_n F.1 F.2.1 dX4_behind_114 rfl (lv_at hl 1 rfl) ?_
            refine gc_SR (As := [.ref (ad 2), .int (iI y1)]) F hK hA hP hS (cp_md_m hP) (c_X4_copiedOf l D cy (ad 2) z5 y1 _ h) (cwS 2 F.2.2.2.2 (gG_S k969 k970 k67 k971) rfl rfl rfl hd_X4_copiedOf ⟨Nat.le_of_ble_eq_true rfl, Nat.le_of_ble_eq_true rfl⟩) dX4_behind_115 rfl rfl hl.1 (Nat.le_of_ble_eq_true rfl) ⟨Nat.le_of_ble_eq_true rfl, Nat.le_of_ble_eq_true rfl⟩ (fun u10 H locs h hP hS => ?_)
            exact ret u10 (z5, re, z4) H locs 118 ls h rfl hP hD hS dX4_behind_118
          · have h := h.2 c9
            refine lv_aload_n F.1 F.2.1 dX4_behind_99 rfl (lv_at hl 0 rfl) ?_
            refine gv_get F hin4 hK hP 0 rfl rfl 1 (by decide) k757 rfl dX4_behind_100 ?_
            refine lv_iload_n F.1 F.2.1 dX4_behind_103 rfl (lv_at hl 1 rfl) ?_
            refine gc_SR (As := [.ref (ad 2), .int (iI y1)]) F hK hA hP hS (cp_md_m hP) (c_X4_rightOf l D cy (ad 2) z5 y1 _ h) (cwS 2 F.2.2.2.2 (gG_S k952 k953 k67 k954) rfl rfl rfl hd_X4_rightOf ⟨Nat.le_of_ble_eq_true rfl, Nat.le_of_ble_eq_true rfl⟩) dX4_behind_104 rfl rfl hl.1 (Nat.le_of_ble_eq_true rfl) ⟨Nat.le_of_ble_eq_true rfl, Nat.le_of_ble_eq_true rfl⟩ (fun u11 H locs h hP hS => ?_)
            refine lv_goto (tgt := 118) F.1 F.2.1 dX4_behind_107 (by decide) ?_
            exact ret u11 (z5, re, z4) H locs 118 ls h rfl hP hD hS dX4_behind_118
        · have h := h.2 c8
          refine lv_aload_n F.1 F.2.1 dX4_behind_83 rfl (lv_at hl 0 rfl) ?_
          refine gv_get F hin4 hK hP 0 rfl rfl 1 (by decide) k757 rfl dX4_behind_84 ?_
          refine lv_iload_n F.1 F.2.1 dX4_behind_87 rfl (lv_at hl 1 rfl) ?_
          refine gc_SR (As := [.ref (ad 2), .int (iI y1)]) F hK hA hP hS (cp_md_m hP) (c_X4_answersOf l D cy (ad 2) z5 y1 _ h) (cwS 2 F.2.2.2.2 (gG_S k966 k967 k67 k968) rfl rfl rfl hd_X4_answersOf ⟨Nat.le_of_ble_eq_true rfl, Nat.le_of_ble_eq_true rfl⟩) dX4_behind_88 rfl rfl hl.1 (Nat.le_of_ble_eq_true rfl) ⟨Nat.le_of_ble_eq_true rfl, Nat.le_of_ble_eq_true rfl⟩ (fun u12 H locs h hP hS => ?_)
          refine lv_goto (tgt := 118) F.1 F.2.1 dX4_behind_91 (by decide) ?_
          exact ret u12 (z5, re, z4) H locs 118 ls h rfl hP hD hS dX4_behind_118
      · have h := h.2 c7
        refine lv_aload_n F.1 F.2.1 dX4_behind_65 rfl (lv_at hl 0 rfl) ?_
        refine gv_get F hin4 hK hP 0 rfl rfl 1 (by decide) k757 rfl dX4_behind_66 ?_
        refine lv_iload_n F.1 F.2.1 dX4_behind_69 rfl (lv_at hl 1 rfl) ?_
        refine gv_iconst F dX4_behind_70 ?_
        refine gc_SR (As := [.int (iI y1), .int (iI 3)]) F hK hA hP hS gPnil (c_X4_of l D cy y1 3 _ h) (cwS 2 F.2.2.2.2 (gG_S k862 k863 k67 k864) rfl rfl rfl hd_X4_of ⟨Nat.le_of_ble_eq_true rfl, Nat.le_of_ble_eq_true rfl⟩) dX4_behind_71 rfl rfl hl.1 (Nat.le_of_ble_eq_true rfl) ⟨Nat.le_of_ble_eq_true rfl, Nat.le_of_ble_eq_true rfl⟩ (fun u13 H locs h hP hS => ?_)
        obtain ⟨g14, h⟩ := h
        refine gv_iald (n := 147) (g := z5) F hK hP 2 rfl rfl (by decide) g14 dX4_behind_74 ?_
        refine lv_goto (tgt := 118) F.1 F.2.1 dX4_behind_75 (by decide) ?_
        exact ret (z5 u13) (z5, re, z4) H locs 118 ls h rfl hP hD hS dX4_behind_118
    · have h := h.2 c2
      refine lv_aload_n F.1 F.2.1 dX4_behind_41 rfl (lv_at hl 0 rfl) ?_
      refine lv_iload F.1 F.2.1 dX4_behind_42 (lv_at hl 4 rfl) ?_
      refine gc_VI (As := [.int (iI y4)]) (wn := fun u : AR => wMd cy ad o ss mm im wa le ro u fa nu) F hK hA hP hD hS hP hD (fun u H1 _ h1 h2 => ⟨h1, h2⟩) (c_X4_no l D cy ad o ss mm im wa le ro re fa nu y4 _ h) (cwV 1 F.2.2.2.2 (gG_V k812 k814 k34 k67 k815) rfl rfl rfl hd_X4_no ⟨Nat.le_of_ble_eq_true rfl, Nat.le_of_ble_eq_true rfl⟩) rfl rfl dX4_behind_44 rfl rfl hl.1 (Nat.le_of_ble_eq_true rfl) ⟨Nat.le_of_ble_eq_true rfl, Nat.le_of_ble_eq_true rfl⟩ (fun u16 z15 H locs h hP hD hS => ?_)
      try dsimp only at h hP hD
      exact ret u16 (mm, z15, fa) H locs 47 ls h rfl hP hD hS dX4_behind_47
  have L16 : ∀ (y1 : Int) (y2 : Int) (y3 : Int) (t0 : Int) (mm : AR) (re : AR) (fa : AR) (H : Heap) (locs : List Loc) (ls : Array Slot), wX4_behind_16 ss Q y1 y2 y3 t0 mm re fa → va_P D vwCl (wMd cy ad o ss mm im wa le ro re fa nu) H → va_D A (wMd cy ad o ss mm im wa le ro re fa nu) → va_S A s.heap H locs → lv_has ls 5 [(0, .ref (ad 0)), (1, .int (iI y1)), (2, .int (iI y2)), (3, .int (iI y3))] → W p l e rX4_behind s m args below meth c H locs 0 0 Qg (F0 m 16 ls [.int (iI t0)]) := by
    intro y1 y2 y3 t0 mm re fa H locs ls h hP hD hS hl
    refine lv_istore (lv' := [(4, .int (iI t0)), (0, .ref (ad 0)), (1, .int (iI y1)), (2, .int (iI y2)), (3, .int (iI y3))]) F.1 F.2.1 dX4_behind_16 hl (by decide) rfl (fun ls hl => ?_)
    refine lv_iload F.1 F.2.1 dX4_behind_18 (lv_at hl 0 rfl) ?_
    obtain ⟨g17, h⟩ := h
    refine gv_if_ne (tgt := 36) F g17 dX4_behind_20 (by decide) (fun c18 => ?_) (fun c18 => ?_)
    · have h := h.1 c18
      exact L36 y1 y2 y3 t0 mm re fa H locs ls h hP hD hS (lv_sub hl [1, 2, 3, 4, 0] rfl)
    · have h := h.2 c18
      refine lv_iload_n F.1 F.2.1 dX4_behind_23 rfl (lv_at hl 4 rfl) ?_
      refine gv_iconst F dX4_behind_24 ?_
      refine gv_iconst F dX4_behind_25 ?_
      refine gc_SR (As := [.int (iI y3), .int (iI 0), .int (iI 3)]) F hK hA hP hS gPnil (c_X4_isIn l D cy y3 0 3 _ h) (cwS 3 F.2.2.2.2 (gG_S k832 k833 k67 k834) rfl rfl rfl hd_X4_isIn ⟨Nat.le_of_ble_eq_true rfl, Nat.le_of_ble_eq_true rfl⟩) dX4_behind_26 rfl rfl hl.1 (Nat.le_of_ble_eq_true rfl) ⟨Nat.le_of_ble_eq_true rfl, Nat.le_of_ble_eq_true rfl⟩ (fun u19 H locs h hP hS => ?_)
      obtain ⟨bu19, h⟩ := h
      refine gv_if_ne (tgt := 36) F (gRb bu19) dX4_behind_29 (by decide) (fun c20 => ?_) (fun c20 => ?_)
      · have h := h.1 c20
        exact L36 y1 y2 y3 t0 mm re fa H locs ls h hP hD hS (lv_sub hl [1, 2, 3, 4, 0] rfl)
      · have h := h.2 c20
        refine gv_bipush F ⟨by decide, by decide⟩ dX4_behind_32 ?_
        refine lv_istore (lv' := [(4, .int (iI (-2))), (0, .ref (ad 0)), (1, .int (iI y1)), (2, .int (iI y2)), (3, .int (iI y3))]) F.1 F.2.1 dX4_behind_34 hl (by decide) rfl (fun ls hl => ?_)
        exact L36 y1 y2 y3 (-2) mm re fa H locs ls h hP hD hS (lv_sub hl [1, 2, 3, 4, 0] rfl)
  refine lv_aload_n F.1 F.2.1 dX4_behind_0 rfl (lv_at hl 0 rfl) ?_
  refine lv_iload_n F.1 F.2.1 dX4_behind_1 rfl (lv_at hl 1 rfl) ?_
  refine gc_VR (As := [.int (iI x1)]) F hK hA hP hS hP (c_X4_isGroup l D cy ad o ss mm im wa le ro re fa nu x1 _ h) (cwV 1 F.2.2.2.2 (gG_V k865 k867 k41 k67 k868) rfl rfl rfl hd_X4_isGroup ⟨Nat.le_of_ble_eq_true rfl, Nat.le_of_ble_eq_true rfl⟩) rfl rfl dX4_behind_2 rfl rfl hl.1 (Nat.le_of_ble_eq_true rfl) ⟨Nat.le_of_ble_eq_true rfl, Nat.le_of_ble_eq_true rfl⟩ (fun u21 H locs h hP hS => ?_)
  obtain ⟨bu21, h⟩ := h
  refine gv_if_ne (tgt := 12) F (gRb bu21) dX4_behind_5 (by decide) (fun c22 => ?_) (fun c22 => ?_)
  · have h := h.1 c22
    refine lv_iload_n F.1 F.2.1 dX4_behind_12 rfl (lv_at hl 2 rfl) ?_
    refine gc_SR (As := [.int (iI x2)]) F hK hA hP hS gPnil (c_X4_wrongMinutes l D cy x2 _ h) (cwS 1 F.2.2.2.2 (gG_S k959 k960 k67 k961) rfl rfl rfl hd_X4_wrongMinutes ⟨Nat.le_of_ble_eq_true rfl, Nat.le_of_ble_eq_true rfl⟩) dX4_behind_13 rfl rfl hl.1 (Nat.le_of_ble_eq_true rfl) ⟨Nat.le_of_ble_eq_true rfl, Nat.le_of_ble_eq_true rfl⟩ (fun u23 H locs h hP hS => ?_)
    exact L16 x1 x2 x3 u23 mm re fa H locs ls h hP hD hS (lv_sub hl [0, 1, 2, 3] rfl)
  · have h := h.2 c22
    refine gv_iconst F dX4_behind_8 ?_
    refine lv_goto (tgt := 16) F.1 F.2.1 dX4_behind_9 (by decide) ?_
    exact L16 x1 x2 x3 (-1) mm re fa H locs ls h hP hD hS (lv_sub hl [0, 1, 2, 3] rfl)
abbrev rX4_doneIn : Room := { frames := 5, cells := 0, slots := 0, locals := 118 }
set_option maxHeartbeats 4000000 in
set_option maxRecDepth 20000 in
theorem c_X4_doneIn (l : Launch) (D : va_G) (cy : ClassId) (ad : Nat → Nat) (o : AR) (ss : AR) (mm : AR) (im : AR) (wa : AR) (le : AR) (ro : AR) (re : AR) (fa : AR) (nu : AR) (x1 : Int) (Q : Int → AR → AR → Prop) (h : wX4_doneIn mm fa x1 Q) : MetI l yX4_doneIn (wT yX4_doneIn cX4_doneIn 3 (some .int)) rX4_doneIn D cy [.ref (ad 0), .int (iI x1)] (wMd cy ad o ss mm im wa le ro re fa nu) (fun u : AR × AR => wMd cy ad o ss u.1 im wa le ro re u.2 nu) (fun r u => Q r u.1 u.2) := by
  refine gI_I (by decide) (Nat.le_of_ble_eq_true rfl) ?_
  intro p e s m args below meth c A Qg F hK hA ret H locs ls hl hP hD hS
  have F : CallFix p m c cX4_doneIn 3 s args gT RX4 := F
  have hl : lv_has ls 3 [(0, .ref (ad 0)), (1, .int (iI x1))] := hl
  have L2 : ∀ (n : Nat) (y1 : Int) (y2 : Int) (mm : AR) (fa : AR) (H : Heap) (locs : List Loc) (ls : Array Slot), wX4_doneIn_2 Q n y1 y2 mm fa → va_P D vwCl (wMd cy ad o ss mm im wa le ro re fa nu) H → va_D A (wMd cy ad o ss mm im wa le ro re fa nu) → va_S A s.heap H locs → lv_has ls 3 [(0, .ref (ad 0)), (1, .int (iI y1)), (2, .int (iI y2))] → W p l e rX4_doneIn s m args below meth c H locs 0 0 Qg (F0 m 2 ls []) := by
    intro  n
    induction n with
    | zero => intro _ _ _ _ _ _ _ h; exact h.elim
    | succ n ih =>
      intro y1 y2 mm fa H locs ls h hP hD hS hl
      rw [wX4_doneIn_2_s] at h
      refine lv_iload_n F.1 F.2.1 dX4_doneIn_2 rfl (lv_at hl 2 rfl) ?_
      refine gv_bipush F ⟨by decide, by decide⟩ dX4_doneIn_3 ?_
      obtain ⟨g1, h⟩ := h
      refine gv_icmp_gt (tgt := 35) F g1 ⟨by decide, by decide⟩ dX4_doneIn_5 (by decide) (fun c2 => ?_) (fun c2 => ?_)
      · have h := h.1 c2
        refine gv_bipush F ⟨by decide, by decide⟩ dX4_doneIn_35 ?_
        exact ret (-9) (mm, fa) H locs 37 ls h rfl hP hD hS dX4_doneIn_37
      · have h := h.2 c2
        refine lv_aload_n F.1 F.2.1 dX4_doneIn_8 rfl (lv_at hl 0 rfl) ?_
        refine gv_get F hin4 hK hP 0 rfl rfl 1 (by decide) k757 rfl dX4_doneIn_9 ?_
        refine lv_iload_n F.1 F.2.1 dX4_doneIn_12 rfl (lv_at hl 1 rfl) ?_
        refine gc_SR (As := [.ref (ad 2), .int (iI y1)]) F hK hA hP hS (cp_md_m hP) (c_X4_isDoneIn l D cy (ad 2) mm y1 _ h) (cwS 2 F.2.2.2.2 (gG_S k984 k985 k67 k986) rfl rfl rfl hd_X4_isDoneIn ⟨Nat.le_of_ble_eq_true rfl, Nat.le_of_ble_eq_true rfl⟩) dX4_doneIn_13 rfl rfl hl.1 (Nat.le_of_ble_eq_true rfl) ⟨Nat.le_of_ble_eq_true rfl, Nat.le_of_ble_eq_true rfl⟩ (fun u3 H locs h hP hS => ?_)
        obtain ⟨bu3, h⟩ := h
        refine gv_if_eq (tgt := 21) F (gRb bu3) dX4_doneIn_16 (by decide) (fun c4 => ?_) (fun c4 => ?_)
        · have h := h.1 c4
          refine lv_aload_n F.1 F.2.1 dX4_doneIn_21 rfl (lv_at hl 0 rfl) ?_
          refine lv_aload_n F.1 F.2.1 dX4_doneIn_22 rfl (lv_at hl 0 rfl) ?_
          refine gv_get F hin4 hK hP 0 rfl rfl 1 (by decide) k757 rfl dX4_doneIn_23 ?_
          refine gc_VV (As := [.ref (ad 2)]) (wn := fun u : AR × AR => wMd cy ad o ss u.2 im wa le ro re u.1 nu) F hK hA hP hD hS (cp_md_fm hP) (cd_md_fm hD) (fun u H1 hk h1 _ => cj_md_fm hP hD u.1 u.2 H1 hk h1) (c_X4_minute l D cy ad (ad 2) o fa mm _ h) (cwV 1 F.2.2.2.2 (gG_V k877 k879 k44 k67 k880) rfl rfl rfl hd_X4_minute ⟨Nat.le_of_ble_eq_true rfl, Nat.le_of_ble_eq_true rfl⟩) rfl rfl dX4_doneIn_26 rfl rfl hl.1 (Nat.le_of_ble_eq_true rfl) ⟨Nat.le_of_ble_eq_true rfl, Nat.le_of_ble_eq_true rfl⟩ (fun u H locs h hP hD hS => ?_)
          obtain ⟨z5, z6⟩ := u
          try dsimp only at h hP hD
          obtain ⟨v7, ev7⟩ : ∃ z : Int, z = y2 + 1 := ⟨_, rfl⟩
          have h := h v7 ev7
          refine gv_iinc (lv' := [(2, .int (iI v7)), (0, .ref (ad 0)), (1, .int (iI y1))]) F dX4_doneIn_29 hl (k := 2) rfl ev7 (by decide) rfl (fun ls hl => ?_)
          refine lv_goto (tgt := 2) F.1 F.2.1 dX4_doneIn_32 (by decide) ?_
          exact ih y1 v7 z6 z5 H locs ls h hP hD hS (lv_sub hl [1, 2, 0] rfl)
        · have h := h.2 c4
          refine lv_iload_n F.1 F.2.1 dX4_doneIn_19 rfl (lv_at hl 2 rfl) ?_
          exact ret y2 (mm, fa) H locs 20 ls h rfl hP hD hS dX4_doneIn_20
  refine gv_iconst F dX4_doneIn_0 ?_
  refine lv_istore_n (lv' := [(2, .int (iI 0)), (0, .ref (ad 0)), (1, .int (iI x1))]) F.1 F.2.1 dX4_doneIn_1 rfl hl (by decide) rfl (fun ls hl => ?_)
  obtain ⟨n8, h⟩ := h
  exact L2 n8 x1 0 mm fa H locs ls h hP hD hS (lv_sub hl [1, 2, 0] rfl)
abbrev rX4_allDoneIn : Room := { frames := 5, cells := 0, slots := 0, locals := 118 }
set_option maxHeartbeats 4000000 in
set_option maxRecDepth 20000 in
theorem c_X4_allDoneIn (l : Launch) (D : va_G) (cy : ClassId) (ad : Nat → Nat) (o : AR) (ss : AR) (mm : AR) (im : AR) (wa : AR) (le : AR) (ro : AR) (re : AR) (fa : AR) (nu : AR) (Q : Int → AR → AR → Prop) (h : wX4_allDoneIn mm fa Q) : MetI l yX4_allDoneIn (wT yX4_allDoneIn cX4_allDoneIn 2 (some .int)) rX4_allDoneIn D cy [.ref (ad 0)] (wMd cy ad o ss mm im wa le ro re fa nu) (fun u : AR × AR => wMd cy ad o ss u.1 im wa le ro re u.2 nu) (fun r u => Q r u.1 u.2) := by
  refine gI_I (by decide) (Nat.le_of_ble_eq_true rfl) ?_
  intro p e s m args below meth c A Qg F hK hA ret H locs ls hl hP hD hS
  have F : CallFix p m c cX4_allDoneIn 2 s args gT RX4 := F
  have hl : lv_has ls 2 [(0, .ref (ad 0))] := hl
  have L2 : ∀ (n : Nat) (y1 : Int) (mm : AR) (fa : AR) (H : Heap) (locs : List Loc) (ls : Array Slot), wX4_allDoneIn_2 Q n y1 mm fa → va_P D vwCl (wMd cy ad o ss mm im wa le ro re fa nu) H → va_D A (wMd cy ad o ss mm im wa le ro re fa nu) → va_S A s.heap H locs → lv_has ls 2 [(0, .ref (ad 0)), (1, .int (iI y1))] → W p l e rX4_allDoneIn s m args below meth c H locs 0 0 Qg (F0 m 2 ls []) := by
    intro  n
    induction n with
    | zero => intro _ _ _ _ _ _ h; exact h.elim
    | succ n ih =>
      intro y1 mm fa H locs ls h hP hD hS hl
      rw [wX4_allDoneIn_2_s] at h
      refine lv_iload_n F.1 F.2.1 dX4_allDoneIn_2 rfl (lv_at hl 1 rfl) ?_
      refine gv_bipush F ⟨by decide, by decide⟩ dX4_allDoneIn_3 ?_
      obtain ⟨g1, h⟩ := h
      refine gv_icmp_gt (tgt := 34) F g1 ⟨by decide, by decide⟩ dX4_allDoneIn_5 (by decide) (fun c2 => ?_) (fun c2 => ?_)
      · have h := h.1 c2
        refine gv_bipush F ⟨by decide, by decide⟩ dX4_allDoneIn_34 ?_
        exact ret (-9) (mm, fa) H locs 36 ls h rfl hP hD hS dX4_allDoneIn_36
      · have h := h.2 c2
        refine lv_aload_n F.1 F.2.1 dX4_allDoneIn_8 rfl (lv_at hl 0 rfl) ?_
        refine gv_get F hin4 hK hP 0 rfl rfl 1 (by decide) k757 rfl dX4_allDoneIn_9 ?_
        refine gc_SR (As := [.ref (ad 2)]) F hK hA hP hS (cp_md_m hP) (c_X4_areAllDone l D cy (ad 2) mm _ h) (cwS 1 F.2.2.2.2 (gG_S k995 k996 k67 k997) rfl rfl rfl hd_X4_areAllDone ⟨Nat.le_of_ble_eq_true rfl, Nat.le_of_ble_eq_true rfl⟩) dX4_allDoneIn_12 rfl rfl hl.1 (Nat.le_of_ble_eq_true rfl) ⟨Nat.le_of_ble_eq_true rfl, Nat.le_of_ble_eq_true rfl⟩ (fun u3 H locs h hP hS => ?_)
        obtain ⟨bu3, h⟩ := h
        refine gv_if_eq (tgt := 20) F (gRb bu3) dX4_allDoneIn_15 (by decide) (fun c4 => ?_) (fun c4 => ?_)
        · have h := h.1 c4
          refine lv_aload_n F.1 F.2.1 dX4_allDoneIn_20 rfl (lv_at hl 0 rfl) ?_
          refine lv_aload_n F.1 F.2.1 dX4_allDoneIn_21 rfl (lv_at hl 0 rfl) ?_
          refine gv_get F hin4 hK hP 0 rfl rfl 1 (by decide) k757 rfl dX4_allDoneIn_22 ?_
          refine gc_VV (As := [.ref (ad 2)]) (wn := fun u : AR × AR => wMd cy ad o ss u.2 im wa le ro re u.1 nu) F hK hA hP hD hS (cp_md_fm hP) (cd_md_fm hD) (fun u H1 hk h1 _ => cj_md_fm hP hD u.1 u.2 H1 hk h1) (c_X4_minute l D cy ad (ad 2) o fa mm _ h) (cwV 1 F.2.2.2.2 (gG_V k877 k879 k44 k67 k880) rfl rfl rfl hd_X4_minute ⟨Nat.le_of_ble_eq_true rfl, Nat.le_of_ble_eq_true rfl⟩) rfl rfl dX4_allDoneIn_25 rfl rfl hl.1 (Nat.le_of_ble_eq_true rfl) ⟨Nat.le_of_ble_eq_true rfl, Nat.le_of_ble_eq_true rfl⟩ (fun u H locs h hP hD hS => ?_)
          obtain ⟨z5, z6⟩ := u
          try dsimp only at h hP hD
          obtain ⟨v7, ev7⟩ : ∃ z : Int, z = y1 + 1 := ⟨_, rfl⟩
          have h := h v7 ev7
          refine gv_iinc (lv' := [(1, .int (iI v7)), (0, .ref (ad 0))]) F dX4_allDoneIn_28 hl (k := 1) rfl ev7 (by decide) rfl (fun ls hl => ?_)
          refine lv_goto (tgt := 2) F.1 F.2.1 dX4_allDoneIn_31 (by decide) ?_
          exact ih v7 z6 z5 H locs ls h hP hD hS (lv_sub hl [1, 0] rfl)
        · have h := h.2 c4
          refine lv_iload_n F.1 F.2.1 dX4_allDoneIn_18 rfl (lv_at hl 1 rfl) ?_
          exact ret y1 (mm, fa) H locs 19 ls h rfl hP hD hS dX4_allDoneIn_19
  refine gv_iconst F dX4_allDoneIn_0 ?_
  refine lv_istore_n (lv' := [(1, .int (iI 0)), (0, .ref (ad 0))]) F.1 F.2.1 dX4_allDoneIn_1 rfl hl (by decide) rfl (fun ls hl => ?_)
  obtain ⟨n8, h⟩ := h
  exact L2 n8 0 mm fa H locs ls h hP hD hS (lv_sub hl [1, 0] rfl)
abbrev rX4_doneNow : Room := { frames := 6, cells := 0, slots := 0, locals := 140 }
set_option maxHeartbeats 4000000 in
set_option maxRecDepth 20000 in
theorem c_X4_doneNow (l : Launch) (D : va_G) (cy : ClassId) (ad : Nat → Nat) (o : AR) (ss : AR) (mm : AR) (im : AR) (wa : AR) (le : AR) (ro : AR) (re : AR) (fa : AR) (nu : AR) (x1 : Int) (Q : Int → AR → AR → Prop) (h : wX4_doneNow ss mm fa x1 Q) : MetI l yX4_doneNow (wT yX4_doneNow cX4_doneNow 2 (some .int)) rX4_doneNow D cy [.ref (ad 0), .int (iI x1)] (wMd cy ad o ss mm im wa le ro re fa nu) (fun u : AR × AR => wMd cy ad o ss u.1 im wa le ro re u.2 nu) (fun r u => Q r u.1 u.2) := by
  refine gI_I (by decide) (Nat.le_of_ble_eq_true rfl) ?_
  intro p e s m args below meth c A Qg F hK hA ret H locs ls hl hP hD hS
  have F : CallFix p m c cX4_doneNow 2 s args gT RX4 := F
  have hl : lv_has ls 2 [(0, .ref (ad 0)), (1, .int (iI x1))] := hl
  refine lv_aload_n F.1 F.2.1 dX4_doneNow_0 rfl (lv_at hl 0 rfl) ?_
  refine gv_get F hin4 hK hP 0 rfl rfl 0 (by decide) k756 rfl dX4_doneNow_1 ?_
  refine lv_aload_n F.1 F.2.1 dX4_doneNow_4 rfl (lv_at hl 0 rfl) ?_
  refine gv_get F hin4 hK hP 0 rfl rfl 1 (by decide) k757 rfl dX4_doneNow_5 ?_
  refine gc_SV (As := [.ref (ad 1), .ref (ad 2)]) (wn := fun u : AR => wMd cy ad o ss u im wa le ro re fa nu) F hK hA hP hD hS (cp_md_s_m hP) (cd_md_s_m hD) (fun u H1 hk h1 _ => cj_md_s_m hP hD u H1 hk h1) (c_X4_lays l D cy (ad 1) (ad 2) ss mm _ h) (cwS 2 F.2.2.2.2 (gG_S k842 k843 k67 k844) rfl rfl rfl hd_X4_lays ⟨Nat.le_of_ble_eq_true rfl, Nat.le_of_ble_eq_true rfl⟩) dX4_doneNow_8 rfl rfl hl.1 (Nat.le_of_ble_eq_true rfl) ⟨Nat.le_of_ble_eq_true rfl, Nat.le_of_ble_eq_true rfl⟩ (fun z1 H locs h hP hD hS => ?_)
  try dsimp only at h hP hD
  refine lv_aload_n F.1 F.2.1 dX4_doneNow_11 rfl (lv_at hl 0 rfl) ?_
  refine lv_iload_n F.1 F.2.1 dX4_doneNow_12 rfl (lv_at hl 1 rfl) ?_
  refine gc_VI (As := [.int (iI x1)]) (wn := fun u : AR × AR => wMd cy ad o ss u.1 im wa le ro re u.2 nu) F hK hA hP hD hS hP hD (fun u H1 _ h1 h2 => ⟨h1, h2⟩) (c_X4_doneIn l D cy ad o ss z1 im wa le ro re fa nu x1 _ h) (cwV 1 F.2.2.2.2 (gG_V k980 k982 k51 k67 k983) rfl rfl rfl hd_X4_doneIn ⟨Nat.le_of_ble_eq_true rfl, Nat.le_of_ble_eq_true rfl⟩) rfl rfl dX4_doneNow_13 rfl rfl hl.1 (Nat.le_of_ble_eq_true rfl) ⟨Nat.le_of_ble_eq_true rfl, Nat.le_of_ble_eq_true rfl⟩ (fun u4 u H locs h hP hD hS => ?_)
  obtain ⟨z2, z3⟩ := u
  try dsimp only at h hP hD
  exact ret u4 (z2, z3) H locs 16 ls h rfl hP hD hS dX4_doneNow_16
abbrev rX4_done : Room := { frames := 7, cells := 0, slots := 0, locals := 161 }
set_option maxHeartbeats 4000000 in
set_option maxRecDepth 20000 in
theorem c_X4_done (l : Launch) (D : va_G) (cy : ClassId) (ad : Nat → Nat) (o : AR) (ss : AR) (mm : AR) (im : AR) (wa : AR) (le : AR) (ro : AR) (re : AR) (fa : AR) (nu : AR) (x1 : Int) (Q : Int → AR → AR → AR → Prop) (h : wX4_done ss mm re fa x1 Q) : MetI l yX4_done (wT yX4_done cX4_done 2 (some .int)) rX4_done D cy [.ref (ad 0), .int (iI x1)] (wMd cy ad o ss mm im wa le ro re fa nu) (fun u : AR × AR × AR => wMd cy ad o ss u.1 im wa le ro u.2.1 u.2.2 nu) (fun r u => Q r u.1 u.2.1 u.2.2) := by
  refine gI_I (by decide) (Nat.le_of_ble_eq_true rfl) ?_
  intro p e s m args below meth c A Qg F hK hA ret H locs ls hl hP hD hS
  have F : CallFix p m c cX4_done 2 s args gT RX4 := F
  have hl : lv_has ls 2 [(0, .ref (ad 0)), (1, .int (iI x1))] := hl
  refine lv_aload_n F.1 F.2.1 dX4_done_0 rfl (lv_at hl 0 rfl) ?_
  refine lv_iload_n F.1 F.2.1 dX4_done_1 rfl (lv_at hl 1 rfl) ?_
  refine gc_VR (As := [.int (iI x1)]) F hK hA hP hS hP (c_X4_isGroup l D cy ad o ss mm im wa le ro re fa nu x1 _ h) (cwV 1 F.2.2.2.2 (gG_V k865 k867 k41 k67 k868) rfl rfl rfl hd_X4_isGroup ⟨Nat.le_of_ble_eq_true rfl, Nat.le_of_ble_eq_true rfl⟩) rfl rfl dX4_done_2 rfl rfl hl.1 (Nat.le_of_ble_eq_true rfl) ⟨Nat.le_of_ble_eq_true rfl, Nat.le_of_ble_eq_true rfl⟩ (fun u1 H locs h hP hS => ?_)
  obtain ⟨bu1, h⟩ := h
  refine gv_if_eq (tgt := 16) F (gRb bu1) dX4_done_5 (by decide) (fun c2 => ?_) (fun c2 => ?_)
  · have h := h.1 c2
    refine lv_aload_n F.1 F.2.1 dX4_done_16 rfl (lv_at hl 0 rfl) ?_
    refine gv_iconst F dX4_done_17 ?_
    refine gc_VI (As := [.int (iI (-1))]) (wn := fun u : AR => wMd cy ad o ss mm im wa le ro u fa nu) F hK hA hP hD hS hP hD (fun u H1 _ h1 h2 => ⟨h1, h2⟩) (c_X4_no l D cy ad o ss mm im wa le ro re fa nu (-1) _ h) (cwV 1 F.2.2.2.2 (gG_V k812 k814 k34 k67 k815) rfl rfl rfl hd_X4_no ⟨Nat.le_of_ble_eq_true rfl, Nat.le_of_ble_eq_true rfl⟩) rfl rfl dX4_done_18 rfl rfl hl.1 (Nat.le_of_ble_eq_true rfl) ⟨Nat.le_of_ble_eq_true rfl, Nat.le_of_ble_eq_true rfl⟩ (fun u4 z3 H locs h hP hD hS => ?_)
    try dsimp only at h hP hD
    exact ret u4 (mm, z3, fa) H locs 21 ls h rfl hP hD hS dX4_done_21
  · have h := h.2 c2
    refine lv_aload_n F.1 F.2.1 dX4_done_8 rfl (lv_at hl 0 rfl) ?_
    refine lv_iload_n F.1 F.2.1 dX4_done_9 rfl (lv_at hl 1 rfl) ?_
    refine gc_VI (As := [.int (iI x1)]) (wn := fun u : AR × AR => wMd cy ad o ss u.1 im wa le ro re u.2 nu) F hK hA hP hD hS hP hD (fun u H1 _ h1 h2 => ⟨h1, h2⟩) (c_X4_doneNow l D cy ad o ss mm im wa le ro re fa nu x1 _ h) (cwV 1 F.2.2.2.2 (gG_V k976 k978 k50 k67 k979) rfl rfl rfl hd_X4_doneNow ⟨Nat.le_of_ble_eq_true rfl, Nat.le_of_ble_eq_true rfl⟩) rfl rfl dX4_done_10 rfl rfl hl.1 (Nat.le_of_ble_eq_true rfl) ⟨Nat.le_of_ble_eq_true rfl, Nat.le_of_ble_eq_true rfl⟩ (fun u7 u H locs h hP hD hS => ?_)
    obtain ⟨z5, z6⟩ := u
    try dsimp only at h hP hD
    refine lv_goto (tgt := 21) F.1 F.2.1 dX4_done_13 (by decide) ?_
    exact ret u7 (z5, re, z6) H locs 21 ls h rfl hP hD hS dX4_done_21
abbrev rX4_ended : Room := { frames := 7, cells := 0, slots := 0, locals := 161 }
set_option maxHeartbeats 4000000 in
set_option maxRecDepth 20000 in
theorem c_X4_ended (l : Launch) (D : va_G) (cy : ClassId) (ad : Nat → Nat) (o : AR) (ss : AR) (mm : AR) (im : AR) (wa : AR) (le : AR) (ro : AR) (re : AR) (fa : AR) (nu : AR) (x1 : Int) (Q : Int → AR → AR → AR → Prop) (h : wX4_ended ss mm re fa x1 Q) : MetI l yX4_ended (wT yX4_ended cX4_ended 6 (some .int)) rX4_ended D cy [.ref (ad 0), .int (iI x1)] (wMd cy ad o ss mm im wa le ro re fa nu) (fun u : AR × AR × AR => wMd cy ad o ss u.1 im wa le ro u.2.1 u.2.2 nu) (fun r u => Q r u.1 u.2.1 u.2.2) := by
  refine gI_I (by decide) (Nat.le_of_ble_eq_true rfl) ?_
  intro p e s m args below meth c A Qg F hK hA ret H locs ls hl hP hD hS
  have F : CallFix p m c cX4_ended 6 s args gT RX4 := F
  have hl : lv_has ls 6 [(0, .ref (ad 0)), (1, .int (iI x1))] := hl
  have L46 : ∀ (n : Nat) (y2 : Int) (y3 : Int) (y4 : Int) (mm : AR) (re : AR) (fa : AR) (H : Heap) (locs : List Loc) (ls : Array Slot), wX4_ended_46 ss Q n y2 y3 y4 mm re fa → va_P D vwCl (wMd cy ad o ss mm im wa le ro re fa nu) H → va_D A (wMd cy ad o ss mm im wa le ro re fa nu) → va_S A s.heap H locs → lv_has ls 6 [(0, .ref (ad 0)), (2, .int (iI y2)), (3, .int (iI y3)), (4, .int (iI y4))] → W p l e rX4_ended s m args below meth c H locs 0 0 Qg (F0 m 46 ls []) := by
    intro  n
    induction n with
    | zero => intro _ _ _ _ _ _ _ _ _ h; exact h.elim
    | succ n ih =>
      intro y2 y3 y4 mm re fa H locs ls h hP hD hS hl
      rw [wX4_ended_46_s] at h
      refine lv_iload F.1 F.2.1 dX4_ended_46 (lv_at hl 3 rfl) ?_
      refine lv_aload_n F.1 F.2.1 dX4_ended_48 rfl (lv_at hl 0 rfl) ?_
      refine gv_get F hin4 hK hP 0 rfl rfl 0 (by decide) k756 rfl dX4_ended_49 ?_
      refine gv_iconst F dX4_ended_52 ?_
      refine gv_iald (n := 147) (g := ss) F hK hP 1 rfl rfl (by decide) ⟨by decide, by decide⟩ dX4_ended_53 ?_
      obtain ⟨g1, h⟩ := h
      obtain ⟨g2, h⟩ := h
      refine gv_icmp_ge (tgt := 91) F g1 g2 dX4_ended_54 (by decide) (fun c3 => ?_) (fun c3 => ?_)
      · have h := h.1 c3
        refine lv_iload_n F.1 F.2.1 dX4_ended_91 rfl (lv_at hl 1 rfl) ?_
        exact ret y2 (mm, re, fa) H locs 92 ls h rfl hP hD hS dX4_ended_92
      · have h := h.2 c3
        refine lv_aload_n F.1 F.2.1 dX4_ended_57 rfl (lv_at hl 0 rfl) ?_
        refine lv_iload F.1 F.2.1 dX4_ended_58 (lv_at hl 3 rfl) ?_
        refine gc_VI (As := [.int (iI y4)]) (wn := fun u : AR × AR => wMd cy ad o ss u.1 im wa le ro re u.2 nu) F hK hA hP hD hS hP hD (fun u H1 _ h1 h2 => ⟨h1, h2⟩) (c_X4_doneNow l D cy ad o ss mm im wa le ro re fa nu y4 _ h) (cwV 1 F.2.2.2.2 (gG_V k976 k978 k50 k67 k979) rfl rfl rfl hd_X4_doneNow ⟨Nat.le_of_ble_eq_true rfl, Nat.le_of_ble_eq_true rfl⟩) rfl rfl dX4_ended_60 rfl rfl hl.1 (Nat.le_of_ble_eq_true rfl) ⟨Nat.le_of_ble_eq_true rfl, Nat.le_of_ble_eq_true rfl⟩ (fun u6 u H locs h hP hD hS => ?_)
        obtain ⟨z4, z5⟩ := u
        try dsimp only at h hP hD
        refine lv_istore (lv' := [(5, .int (iI u6)), (0, .ref (ad 0)), (2, .int (iI y2)), (3, .int (iI y3)), (4, .int (iI y4))]) F.1 F.2.1 dX4_ended_63 hl (by decide) rfl (fun ls hl => ?_)
        refine lv_iload F.1 F.2.1 dX4_ended_65 (lv_at hl 0 rfl) ?_
        obtain ⟨g7, h⟩ := h
        refine gv_if_lt (tgt := 85) F g7 dX4_ended_67 (by decide) (fun c8 => ?_) (fun c8 => ?_)
        · have h := h.1 c8
          obtain ⟨v9, ev9⟩ : ∃ z : Int, z = y4 + 1 := ⟨_, rfl⟩
          have h := h v9 ev9
          refine gv_iinc (lv' := [(4, .int (iI v9)), (5, .int (iI u6)), (0, .ref (ad 0)), (2, .int (iI y2)), (3, .int (iI y3))]) F dX4_ended_85 hl (k := 4) rfl ev9 (by decide) rfl (fun ls hl => ?_)
          refine lv_goto (tgt := 46) F.1 F.2.1 dX4_ended_88 (by decide) ?_
          exact ih y2 y3 v9 z4 re z5 H locs ls h hP hD hS (lv_sub hl [2, 3, 4, 0] rfl)
        · have h := h.2 c8
          refine lv_iload F.1 F.2.1 dX4_ended_70 (lv_at hl 0 rfl) ?_
          refine lv_iload_n F.1 F.2.1 dX4_ended_72 rfl (lv_at hl 3 rfl) ?_
          obtain ⟨g10, h⟩ := h
          refine gv_icmp_lt (tgt := 79) F g7 g10 dX4_ended_73 (by decide) (fun c11 => ?_) (fun c11 => ?_)
          · have h := h.1 c11
            refine lv_iload F.1 F.2.1 dX4_ended_79 (lv_at hl 4 rfl) ?_
            refine lv_istore_n (lv' := [(2, .int (iI y4)), (5, .int (iI u6)), (0, .ref (ad 0)), (3, .int (iI y3)), (4, .int (iI y4))]) F.1 F.2.1 dX4_ended_81 rfl hl (by decide) rfl (fun ls hl => ?_)
            refine lv_iload F.1 F.2.1 dX4_ended_82 (lv_at hl 1 rfl) ?_
            refine lv_istore_n (lv' := [(3, .int (iI u6)), (2, .int (iI y4)), (5, .int (iI u6)), (0, .ref (ad 0)), (4, .int (iI y4))]) F.1 F.2.1 dX4_ended_84 rfl hl (by decide) rfl (fun ls hl => ?_)
            obtain ⟨v12, ev12⟩ : ∃ z : Int, z = y4 + 1 := ⟨_, rfl⟩
            have h := h v12 ev12
            refine gv_iinc (lv' := [(4, .int (iI v12)), (3, .int (iI u6)), (2, .int (iI y4)), (5, .int (iI u6)), (0, .ref (ad 0))]) F dX4_ended_85 hl (k := 4) rfl ev12 (by decide) rfl (fun ls hl => ?_)
            refine lv_goto (tgt := 46) F.1 F.2.1 dX4_ended_88 (by decide) ?_
            exact ih y4 u6 v12 z4 re z5 H locs ls h hP hD hS (lv_sub hl [4, 2, 1, 0] rfl)
          · have h := h.2 c11
            refine lv_goto (tgt := 85) F.1 F.2.1 dX4_ended_76 (by decide) ?_
            obtain ⟨v13, ev13⟩ : ∃ z : Int, z = y4 + 1 := ⟨_, rfl⟩
            have h := h v13 ev13
            refine gv_iinc (lv' := [(4, .int (iI v13)), (5, .int (iI u6)), (0, .ref (ad 0)), (2, .int (iI y2)), (3, .int (iI y3))]) F dX4_ended_85 hl (k := 4) rfl ev13 (by decide) rfl (fun ls hl => ?_)
            refine lv_goto (tgt := 46) F.1 F.2.1 dX4_ended_88 (by decide) ?_
            exact ih y2 y3 v13 z4 re z5 H locs ls h hP hD hS (lv_sub hl [2, 3, 4, 0] rfl)
  refine lv_iload_n F.1 F.2.1 dX4_ended_0 rfl (lv_at hl 1 rfl) ?_
  refine gv_iconst F dX4_ended_1 ?_
  refine gv_iconst F dX4_ended_2 ?_
  refine gc_SR (As := [.int (iI x1), .int (iI 0), .int (iI 1)]) F hK hA hP hS gPnil (c_X4_isIn l D cy x1 0 1 _ h) (cwS 3 F.2.2.2.2 (gG_S k832 k833 k67 k834) rfl rfl rfl hd_X4_isIn ⟨Nat.le_of_ble_eq_true rfl, Nat.le_of_ble_eq_true rfl⟩) dX4_ended_3 rfl rfl hl.1 (Nat.le_of_ble_eq_true rfl) ⟨Nat.le_of_ble_eq_true rfl, Nat.le_of_ble_eq_true rfl⟩ (fun u14 H locs h hP hS => ?_)
  obtain ⟨bu14, h⟩ := h
  refine gv_if_ne (tgt := 16) F (gRb bu14) dX4_ended_6 (by decide) (fun c15 => ?_) (fun c15 => ?_)
  · have h := h.1 c15
    refine lv_iload_n F.1 F.2.1 dX4_ended_16 rfl (lv_at hl 1 rfl) ?_
    refine gv_iconst F dX4_ended_17 ?_
    obtain ⟨g16, h⟩ := h
    refine gv_icmp_ne (tgt := 37) F g16 ⟨by decide, by decide⟩ dX4_ended_18 (by decide) (fun c17 => ?_) (fun c17 => ?_)
    · have h := h.1 c17
      refine gv_bipush F ⟨by decide, by decide⟩ dX4_ended_37 ?_
      refine lv_istore_n (lv' := [(2, .int (iI (-9))), (0, .ref (ad 0)), (1, .int (iI x1))]) F.1 F.2.1 dX4_ended_39 rfl hl (by decide) rfl (fun ls hl => ?_)
      refine gv_ldc (n := 1000000000) F k896 rfl dX4_ended_40 ?_
      refine lv_istore_n (lv' := [(3, .int (iI 1000000000)), (2, .int (iI (-9))), (0, .ref (ad 0)), (1, .int (iI x1))]) F.1 F.2.1 dX4_ended_42 rfl hl (by decide) rfl (fun ls hl => ?_)
      refine gv_iconst F dX4_ended_43 ?_
      refine lv_istore (lv' := [(4, .int (iI 0)), (3, .int (iI 1000000000)), (2, .int (iI (-9))), (0, .ref (ad 0)), (1, .int (iI x1))]) F.1 F.2.1 dX4_ended_44 hl (by decide) rfl (fun ls hl => ?_)
      obtain ⟨n18, h⟩ := h
      exact L46 n18 (-9) 1000000000 0 mm re fa H locs ls h hP hD hS (lv_sub hl [3, 2, 1, 0] rfl)
    · have h := h.2 c17
      refine lv_aload_n F.1 F.2.1 dX4_ended_21 rfl (lv_at hl 0 rfl) ?_
      refine gv_get F hin4 hK hP 0 rfl rfl 0 (by decide) k756 rfl dX4_ended_22 ?_
      refine lv_aload_n F.1 F.2.1 dX4_ended_25 rfl (lv_at hl 0 rfl) ?_
      refine gv_get F hin4 hK hP 0 rfl rfl 1 (by decide) k757 rfl dX4_ended_26 ?_
      refine gc_SV (As := [.ref (ad 1), .ref (ad 2)]) (wn := fun u : AR => wMd cy ad o ss u im wa le ro re fa nu) F hK hA hP hD hS (cp_md_s_m hP) (cd_md_s_m hD) (fun u H1 hk h1 _ => cj_md_s_m hP hD u H1 hk h1) (c_X4_lays l D cy (ad 1) (ad 2) ss mm _ h) (cwS 2 F.2.2.2.2 (gG_S k842 k843 k67 k844) rfl rfl rfl hd_X4_lays ⟨Nat.le_of_ble_eq_true rfl, Nat.le_of_ble_eq_true rfl⟩) dX4_ended_29 rfl rfl hl.1 (Nat.le_of_ble_eq_true rfl) ⟨Nat.le_of_ble_eq_true rfl, Nat.le_of_ble_eq_true rfl⟩ (fun z19 H locs h hP hD hS => ?_)
      try dsimp only at h hP hD
      refine lv_aload_n F.1 F.2.1 dX4_ended_32 rfl (lv_at hl 0 rfl) ?_
      refine gc_VI (As := []) (wn := fun u : AR × AR => wMd cy ad o ss u.1 im wa le ro re u.2 nu) F hK hA hP hD hS hP hD (fun u H1 _ h1 h2 => ⟨h1, h2⟩) (c_X4_allDoneIn l D cy ad o ss z19 im wa le ro re fa nu _ h) (cwV 0 F.2.2.2.2 (gG_V k991 k993 k52 k67 k994) rfl rfl rfl hd_X4_allDoneIn ⟨Nat.le_of_ble_eq_true rfl, Nat.le_of_ble_eq_true rfl⟩) rfl rfl dX4_ended_33 rfl rfl hl.1 (Nat.le_of_ble_eq_true rfl) ⟨Nat.le_of_ble_eq_true rfl, Nat.le_of_ble_eq_true rfl⟩ (fun u22 u H locs h hP hD hS => ?_)
      obtain ⟨z20, z21⟩ := u
      try dsimp only at h hP hD
      exact ret u22 (z20, re, z21) H locs 36 ls h rfl hP hD hS dX4_ended_36
  · have h := h.2 c15
    refine lv_aload_n F.1 F.2.1 dX4_ended_9 rfl (lv_at hl 0 rfl) ?_
    refine gv_bipush F ⟨by decide, by decide⟩ dX4_ended_10 ?_
    refine gc_VI (As := [.int (iI (-2))]) (wn := fun u : AR => wMd cy ad o ss mm im wa le ro u fa nu) F hK hA hP hD hS hP hD (fun u H1 _ h1 h2 => ⟨h1, h2⟩) (c_X4_no l D cy ad o ss mm im wa le ro re fa nu (-2) _ h) (cwV 1 F.2.2.2.2 (gG_V k812 k814 k34 k67 k815) rfl rfl rfl hd_X4_no ⟨Nat.le_of_ble_eq_true rfl, Nat.le_of_ble_eq_true rfl⟩) rfl rfl dX4_ended_12 rfl rfl hl.1 (Nat.le_of_ble_eq_true rfl) ⟨Nat.le_of_ble_eq_true rfl, Nat.le_of_ble_eq_true rfl⟩ (fun u24 z23 H locs h hP hD hS => ?_)
    try dsimp only at h hP hD
    exact ret u24 (mm, z23, fa) H locs 15 ls h rfl hP hD hS dX4_ended_15
abbrev rX4_answer : Room := { frames := 6, cells := 0, slots := 0, locals := 141 }
set_option maxHeartbeats 4000000 in
set_option maxRecDepth 20000 in
theorem c_X4_answer (l : Launch) (D : va_G) (cy : ClassId) (ad : Nat → Nat) (o : AR) (ss : AR) (mm : AR) (im : AR) (wa : AR) (le : AR) (ro : AR) (re : AR) (fa : AR) (nu : AR) (x1 x2 x3 : Int) (Q : Int → AR → AR → AR → Prop) (h : wX4_answer ss mm re fa x1 x2 x3 Q) : MetI l yX4_answer (wT yX4_answer cX4_answer 4 (some .int)) rX4_answer D cy [.ref (ad 0), .int (iI x1), .int (iI x2), .int (iI x3)] (wMd cy ad o ss mm im wa le ro re fa nu) (fun u : AR × AR × AR => wMd cy ad o ss u.1 im wa le ro u.2.1 u.2.2 nu) (fun r u => Q r u.1 u.2.1 u.2.2) := by
  refine gI_I (by decide) (Nat.le_of_ble_eq_true rfl) ?_
  intro p e s m args below meth c A Qg F hK hA ret H locs ls hl hP hD hS
  have F : CallFix p m c cX4_answer 4 s args gT RX4 := F
  have hl : lv_has ls 4 [(0, .ref (ad 0)), (1, .int (iI x1)), (2, .int (iI x2)), (3, .int (iI x3))] := hl
  refine lv_aload_n F.1 F.2.1 dX4_answer_0 rfl (lv_at hl 0 rfl) ?_
  refine lv_iload_n F.1 F.2.1 dX4_answer_1 rfl (lv_at hl 1 rfl) ?_
  refine gc_VR (As := [.int (iI x1)]) F hK hA hP hS hP (c_X4_isGroup l D cy ad o ss mm im wa le ro re fa nu x1 _ h) (cwV 1 F.2.2.2.2 (gG_V k865 k867 k41 k67 k868) rfl rfl rfl hd_X4_isGroup ⟨Nat.le_of_ble_eq_true rfl, Nat.le_of_ble_eq_true rfl⟩) rfl rfl dX4_answer_2 rfl rfl hl.1 (Nat.le_of_ble_eq_true rfl) ⟨Nat.le_of_ble_eq_true rfl, Nat.le_of_ble_eq_true rfl⟩ (fun u1 H locs h hP hS => ?_)
  obtain ⟨bu1, h⟩ := h
  refine gv_if_eq (tgt := 16) F (gRb bu1) dX4_answer_5 (by decide) (fun c2 => ?_) (fun c2 => ?_)
  · have h := h.1 c2
    refine lv_aload_n F.1 F.2.1 dX4_answer_16 rfl (lv_at hl 0 rfl) ?_
    refine gv_iconst F dX4_answer_17 ?_
    refine gc_VI (As := [.int (iI (-1))]) (wn := fun u : AR => wMd cy ad o ss mm im wa le ro u fa nu) F hK hA hP hD hS hP hD (fun u H1 _ h1 h2 => ⟨h1, h2⟩) (c_X4_no l D cy ad o ss mm im wa le ro re fa nu (-1) _ h) (cwV 1 F.2.2.2.2 (gG_V k812 k814 k34 k67 k815) rfl rfl rfl hd_X4_no ⟨Nat.le_of_ble_eq_true rfl, Nat.le_of_ble_eq_true rfl⟩) rfl rfl dX4_answer_18 rfl rfl hl.1 (Nat.le_of_ble_eq_true rfl) ⟨Nat.le_of_ble_eq_true rfl, Nat.le_of_ble_eq_true rfl⟩ (fun u4 z3 H locs h hP hD hS => ?_)
    try dsimp only at h hP hD
    exact ret u4 (mm, z3, fa) H locs 21 ls h rfl hP hD hS dX4_answer_21
  · have h := h.2 c2
    refine lv_aload_n F.1 F.2.1 dX4_answer_8 rfl (lv_at hl 0 rfl) ?_
    refine lv_iload_n F.1 F.2.1 dX4_answer_9 rfl (lv_at hl 2 rfl) ?_
    refine gc_VR (As := [.int (iI x2)]) F hK hA hP hS hP (c_X4_isQuestion l D cy ad o ss mm im wa le ro re fa nu x2 _ h) (cwV 1 F.2.2.2.2 (gG_V k869 k871 k42 k67 k872) rfl rfl rfl hd_X4_isQuestion ⟨Nat.le_of_ble_eq_true rfl, Nat.le_of_ble_eq_true rfl⟩) rfl rfl dX4_answer_10 rfl rfl hl.1 (Nat.le_of_ble_eq_true rfl) ⟨Nat.le_of_ble_eq_true rfl, Nat.le_of_ble_eq_true rfl⟩ (fun u5 H locs h hP hS => ?_)
    obtain ⟨bu5, h⟩ := h
    refine gv_if_ne (tgt := 22) F (gRb bu5) dX4_answer_13 (by decide) (fun c6 => ?_) (fun c6 => ?_)
    · have h := h.1 c6
      refine lv_iload_n F.1 F.2.1 dX4_answer_22 rfl (lv_at hl 3 rfl) ?_
      refine gv_iconst F dX4_answer_23 ?_
      refine gv_iconst F dX4_answer_24 ?_
      refine gc_SR (As := [.int (iI x3), .int (iI 0), .int (iI 1)]) F hK hA hP hS gPnil (c_X4_isIn l D cy x3 0 1 _ h) (cwS 3 F.2.2.2.2 (gG_S k832 k833 k67 k834) rfl rfl rfl hd_X4_isIn ⟨Nat.le_of_ble_eq_true rfl, Nat.le_of_ble_eq_true rfl⟩) dX4_answer_25 rfl rfl hl.1 (Nat.le_of_ble_eq_true rfl) ⟨Nat.le_of_ble_eq_true rfl, Nat.le_of_ble_eq_true rfl⟩ (fun u7 H locs h hP hS => ?_)
      obtain ⟨bu7, h⟩ := h
      refine gv_if_ne (tgt := 38) F (gRb bu7) dX4_answer_28 (by decide) (fun c8 => ?_) (fun c8 => ?_)
      · have h := h.1 c8
        refine lv_aload_n F.1 F.2.1 dX4_answer_38 rfl (lv_at hl 0 rfl) ?_
        refine gc_VV (As := []) (wn := fun u : AR => wMd cy ad o ss u im wa le ro re fa nu) F hK hA hP hD hS hP hD (fun u H1 _ h1 h2 => ⟨h1, h2⟩) (c_X4_begins l D cy ad o ss mm im wa le ro re fa nu _ h) (cwV 0 F.2.2.2.2 (gG_V k962 k964 k49 k67 k965) rfl rfl rfl hd_X4_begins ⟨Nat.le_of_ble_eq_true rfl, Nat.le_of_ble_eq_true rfl⟩) rfl rfl dX4_answer_39 rfl rfl hl.1 (Nat.le_of_ble_eq_true rfl) ⟨Nat.le_of_ble_eq_true rfl, Nat.le_of_ble_eq_true rfl⟩ (fun z9 H locs h hP hD hS => ?_)
        try dsimp only at h hP hD
        refine lv_aload_n F.1 F.2.1 dX4_answer_42 rfl (lv_at hl 0 rfl) ?_
        refine lv_aload_n F.1 F.2.1 dX4_answer_43 rfl (lv_at hl 0 rfl) ?_
        refine gv_get F hin4 hK hP 0 rfl rfl 1 (by decide) k757 rfl dX4_answer_44 ?_
        refine gv_bipush F ⟨by decide, by decide⟩ dX4_answer_47 ?_
        refine gc_VV (As := [.ref (ad 2), .int (iI 99)]) (wn := fun u : AR × AR => wMd cy ad o ss u.2 im wa le ro re u.1 nu) F hK hA hP hD hS (cp_md_fm hP) (cd_md_fm hD) (fun u H1 hk h1 _ => cj_md_fm hP hD u.1 u.2 H1 hk h1) (c_X4_minutesOn l D cy ad (ad 2) o fa z9 99 _ h) (cwV 2 F.2.2.2.2 (gG_V k873 k875 k43 k67 k876) rfl rfl rfl hd_X4_minutesOn ⟨Nat.le_of_ble_eq_true rfl, Nat.le_of_ble_eq_true rfl⟩) rfl rfl dX4_answer_49 rfl rfl hl.1 (Nat.le_of_ble_eq_true rfl) ⟨Nat.le_of_ble_eq_true rfl, Nat.le_of_ble_eq_true rfl⟩ (fun u H locs h hP hD hS => ?_)
        obtain ⟨z10, z11⟩ := u
        try dsimp only at h hP hD
        refine lv_aload_n F.1 F.2.1 dX4_answer_52 rfl (lv_at hl 0 rfl) ?_
        refine gv_get F hin4 hK hP 0 rfl rfl 1 (by decide) k757 rfl dX4_answer_53 ?_
        refine lv_iload_n F.1 F.2.1 dX4_answer_56 rfl (lv_at hl 3 rfl) ?_
        obtain ⟨g12, h⟩ := h
        refine gv_if_ne (tgt := 68) F g12 dX4_answer_57 (by decide) (fun c13 => ?_) (fun c13 => ?_)
        · have h := h.1 c13
          refine lv_iload_n F.1 F.2.1 dX4_answer_68 rfl (lv_at hl 1 rfl) ?_
          refine lv_iload_n F.1 F.2.1 dX4_answer_69 rfl (lv_at hl 2 rfl) ?_
          refine gc_SR (As := [.int (iI x1), .int (iI x2)]) F hK hA hP hS gPnil (c_X4_fromOf l D cy x1 x2 _ h) (cwS 2 F.2.2.2.2 (gG_S k906 k907 k67 k908) rfl rfl rfl hd_X4_fromOf ⟨Nat.le_of_ble_eq_true rfl, Nat.le_of_ble_eq_true rfl⟩) dX4_answer_70 rfl rfl hl.1 (Nat.le_of_ble_eq_true rfl) ⟨Nat.le_of_ble_eq_true rfl, Nat.le_of_ble_eq_true rfl⟩ (fun u14 H locs h hP hS => ?_)
          obtain ⟨g15, h⟩ := h
          refine gv_iald (n := 147) (g := z11) F hK hP 2 rfl rfl (by decide) g15 dX4_answer_73 ?_
          exact ret (z11 u14) (z11, re, z10) H locs 74 ls h rfl hP hD hS dX4_answer_74
        · have h := h.2 c13
          refine lv_iload_n F.1 F.2.1 dX4_answer_60 rfl (lv_at hl 1 rfl) ?_
          refine lv_iload_n F.1 F.2.1 dX4_answer_61 rfl (lv_at hl 2 rfl) ?_
          refine gc_SR (As := [.int (iI x1), .int (iI x2)]) F hK hA hP hS gPnil (c_X4_sheetOf l D cy x1 x2 _ h) (cwS 2 F.2.2.2.2 (gG_S k859 k860 k67 k861) rfl rfl rfl hd_X4_sheetOf ⟨Nat.le_of_ble_eq_true rfl, Nat.le_of_ble_eq_true rfl⟩) dX4_answer_62 rfl rfl hl.1 (Nat.le_of_ble_eq_true rfl) ⟨Nat.le_of_ble_eq_true rfl, Nat.le_of_ble_eq_true rfl⟩ (fun u16 H locs h hP hS => ?_)
          refine lv_goto (tgt := 73) F.1 F.2.1 dX4_answer_65 (by decide) ?_
          obtain ⟨g17, h⟩ := h
          refine gv_iald (n := 147) (g := z11) F hK hP 2 rfl rfl (by decide) g17 dX4_answer_73 ?_
          exact ret (z11 u16) (z11, re, z10) H locs 74 ls h rfl hP hD hS dX4_answer_74
      · have h := h.2 c8
        refine lv_aload_n F.1 F.2.1 dX4_answer_31 rfl (lv_at hl 0 rfl) ?_
        refine gv_bipush F ⟨by decide, by decide⟩ dX4_answer_32 ?_
        refine gc_VI (As := [.int (iI (-2))]) (wn := fun u : AR => wMd cy ad o ss mm im wa le ro u fa nu) F hK hA hP hD hS hP hD (fun u H1 _ h1 h2 => ⟨h1, h2⟩) (c_X4_no l D cy ad o ss mm im wa le ro re fa nu (-2) _ h) (cwV 1 F.2.2.2.2 (gG_V k812 k814 k34 k67 k815) rfl rfl rfl hd_X4_no ⟨Nat.le_of_ble_eq_true rfl, Nat.le_of_ble_eq_true rfl⟩) rfl rfl dX4_answer_34 rfl rfl hl.1 (Nat.le_of_ble_eq_true rfl) ⟨Nat.le_of_ble_eq_true rfl, Nat.le_of_ble_eq_true rfl⟩ (fun u19 z18 H locs h hP hD hS => ?_)
        try dsimp only at h hP hD
        exact ret u19 (mm, z18, fa) H locs 37 ls h rfl hP hD hS dX4_answer_37
    · have h := h.2 c6
      refine lv_aload_n F.1 F.2.1 dX4_answer_16 rfl (lv_at hl 0 rfl) ?_
      refine gv_iconst F dX4_answer_17 ?_
      refine gc_VI (As := [.int (iI (-1))]) (wn := fun u : AR => wMd cy ad o ss mm im wa le ro u fa nu) F hK hA hP hD hS hP hD (fun u H1 _ h1 h2 => ⟨h1, h2⟩) (c_X4_no l D cy ad o ss mm im wa le ro re fa nu (-1) _ h) (cwV 1 F.2.2.2.2 (gG_V k812 k814 k34 k67 k815) rfl rfl rfl hd_X4_no ⟨Nat.le_of_ble_eq_true rfl, Nat.le_of_ble_eq_true rfl⟩) rfl rfl dX4_answer_18 rfl rfl hl.1 (Nat.le_of_ble_eq_true rfl) ⟨Nat.le_of_ble_eq_true rfl, Nat.le_of_ble_eq_true rfl⟩ (fun u21 z20 H locs h hP hD hS => ?_)
      try dsimp only at h hP hD
      exact ret u21 (mm, z20, fa) H locs 21 ls h rfl hP hD hS dX4_answer_21
abbrev rX4_inRoom : Room := { frames := 1, cells := 0, slots := 0, locals := 21 }
set_option maxHeartbeats 4000000 in
set_option maxRecDepth 20000 in
theorem c_X4_inRoom (l : Launch) (D : va_G) (cy : ClassId) (a : Nat) (r : AR) (x1 : Int) (Q : Int → Prop) (h : wX4_inRoom r x1 Q) : MetR l yX4_inRoom (wT yX4_inRoom cX4_inRoom 4 (some .int)) rX4_inRoom D cy [.ref a, .int (iI x1)] (wAr cy a 147 r) Q := by
  refine gI_R (by decide) (Nat.le_of_ble_eq_true rfl) ?_
  intro p e s m args below meth c A Qg F hK hA ret H locs ls hl hP hS
  have F : CallFix p m c cX4_inRoom 4 s args gT RX4 := F
  have hl : lv_has ls 4 [(0, .ref a), (1, .int (iI x1))] := hl
  have L4 : ∀ (n : Nat) (y1 : Int) (y2 : Int) (y3 : Int) (H : Heap) (locs : List Loc) (ls : Array Slot), wX4_inRoom_4 r Q n y1 y2 y3 → va_P D vwCl (wAr cy a 147 r) H → va_S A s.heap H locs → lv_has ls 4 [(0, .ref a), (1, .int (iI y1)), (2, .int (iI y2)), (3, .int (iI y3))] → W p l e rX4_inRoom s m args below meth c H locs 0 0 Qg (F0 m 4 ls []) := by
    intro  n
    induction n with
    | zero => intro _ _ _ _ _ _ h; exact h.elim
    | succ n ih =>
      intro y1 y2 y3 H locs ls h hP hS hl
      rw [wX4_inRoom_4_s] at h
      refine lv_iload_n F.1 F.2.1 dX4_inRoom_4 rfl (lv_at hl 3 rfl) ?_
      refine lv_aload_n F.1 F.2.1 dX4_inRoom_5 rfl (lv_at hl 0 rfl) ?_
      refine gv_iconst F dX4_inRoom_6 ?_
      refine gv_iald (n := 147) (g := r) F hK hP 0 rfl rfl (by decide) ⟨by decide, by decide⟩ dX4_inRoom_7 ?_
      obtain ⟨g1, h⟩ := h
      obtain ⟨g2, h⟩ := h
      refine gv_icmp_ge (tgt := 36) F g1 g2 dX4_inRoom_8 (by decide) (fun c3 => ?_) (fun c3 => ?_)
      · have h := h.1 c3
        refine lv_iload_n F.1 F.2.1 dX4_inRoom_36 rfl (lv_at hl 2 rfl) ?_
        exact ret y2 H locs 37 ls h rfl hS dX4_inRoom_37
      · have h := h.2 c3
        refine lv_iload_n F.1 F.2.1 dX4_inRoom_11 rfl (lv_at hl 2 rfl) ?_
        refine lv_aload_n F.1 F.2.1 dX4_inRoom_12 rfl (lv_at hl 0 rfl) ?_
        refine lv_iload_n F.1 F.2.1 dX4_inRoom_13 rfl (lv_at hl 3 rfl) ?_
        refine gv_iconst F dX4_inRoom_14 ?_
        refine gc_SR (As := [.int (iI y3), .int (iI 3)]) F hK hA hP hS gPnil (c_X4_of l D cy y3 3 _ h) (cwS 2 F.2.2.2.2 (gG_S k862 k863 k67 k864) rfl rfl rfl hd_X4_of ⟨Nat.le_of_ble_eq_true rfl, Nat.le_of_ble_eq_true rfl⟩) dX4_inRoom_15 rfl rfl hl.1 (Nat.le_of_ble_eq_true rfl) ⟨Nat.le_of_ble_eq_true rfl, Nat.le_of_ble_eq_true rfl⟩ (fun u4 H locs h hP hS => ?_)
        obtain ⟨g5, h⟩ := h
        refine gv_iald (n := 147) (g := r) F hK hP 0 rfl rfl (by decide) g5 dX4_inRoom_18 ?_
        refine lv_iload_n F.1 F.2.1 dX4_inRoom_19 rfl (lv_at hl 1 rfl) ?_
        obtain ⟨g6, h⟩ := h
        obtain ⟨g7, h⟩ := h
        refine gv_icmp_ne (tgt := 27) F g6 g7 dX4_inRoom_20 (by decide) (fun c8 => ?_) (fun c8 => ?_)
        · have h := h.1 c8
          refine gv_iconst F dX4_inRoom_27 ?_
          refine gv_iadd F dX4_inRoom_28 ?_
          refine gv_name (fun v9 ev9 => ?_)
          have h := h v9 ev9
          refine lv_istore_n (lv' := [(2, .int (iI v9)), (0, .ref a), (1, .int (iI y1)), (3, .int (iI y3))]) F.1 F.2.1 dX4_inRoom_29 rfl hl (by decide) rfl (fun ls hl => ?_)
          obtain ⟨v10, ev10⟩ : ∃ z : Int, z = y3 + 1 := ⟨_, rfl⟩
          have h := h v10 ev10
          refine gv_iinc (lv' := [(3, .int (iI v10)), (2, .int (iI v9)), (0, .ref a), (1, .int (iI y1))]) F dX4_inRoom_30 hl (k := 3) rfl ev10 (by decide) rfl (fun ls hl => ?_)
          refine lv_goto (tgt := 4) F.1 F.2.1 dX4_inRoom_33 (by decide) ?_
          exact ih y1 v9 v10 H locs ls h hP hS (lv_sub hl [2, 3, 1, 0] rfl)
        · have h := h.2 c8
          refine gv_iconst F dX4_inRoom_23 ?_
          refine lv_goto (tgt := 28) F.1 F.2.1 dX4_inRoom_24 (by decide) ?_
          refine gv_iadd F dX4_inRoom_28 ?_
          refine gv_name (fun v11 ev11 => ?_)
          have h := h v11 ev11
          refine lv_istore_n (lv' := [(2, .int (iI v11)), (0, .ref a), (1, .int (iI y1)), (3, .int (iI y3))]) F.1 F.2.1 dX4_inRoom_29 rfl hl (by decide) rfl (fun ls hl => ?_)
          obtain ⟨v12, ev12⟩ : ∃ z : Int, z = y3 + 1 := ⟨_, rfl⟩
          have h := h v12 ev12
          refine gv_iinc (lv' := [(3, .int (iI v12)), (2, .int (iI v11)), (0, .ref a), (1, .int (iI y1))]) F dX4_inRoom_30 hl (k := 3) rfl ev12 (by decide) rfl (fun ls hl => ?_)
          refine lv_goto (tgt := 4) F.1 F.2.1 dX4_inRoom_33 (by decide) ?_
          exact ih y1 v11 v12 H locs ls h hP hS (lv_sub hl [2, 3, 1, 0] rfl)
  refine gv_iconst F dX4_inRoom_0 ?_
  refine lv_istore_n (lv' := [(2, .int (iI 0)), (0, .ref a), (1, .int (iI x1))]) F.1 F.2.1 dX4_inRoom_1 rfl hl (by decide) rfl (fun ls hl => ?_)
  refine gv_iconst F dX4_inRoom_2 ?_
  refine lv_istore_n (lv' := [(3, .int (iI 0)), (2, .int (iI 0)), (0, .ref a), (1, .int (iI x1))]) F.1 F.2.1 dX4_inRoom_3 rfl hl (by decide) rfl (fun ls hl => ?_)
  obtain ⟨n13, h⟩ := h
  exact L4 n13 x1 0 0 H locs ls h hP hS (lv_sub hl [2, 3, 1, 0] rfl)
abbrev rX4_findsFull : Room := { frames := 5, cells := 0, slots := 0, locals := 118 }
set_option maxHeartbeats 4000000 in
set_option maxRecDepth 20000 in
theorem c_X4_findsFull (l : Launch) (D : va_G) (cy : ClassId) (ad : Nat → Nat) (o : AR) (ss : AR) (mm : AR) (im : AR) (wa : AR) (le : AR) (ro : AR) (re : AR) (fa : AR) (nu : AR) (x1 : Int) (Q : AR → AR → AR → Prop) (h : wX4_findsFull o mm fa x1 Q) : MetV l yX4_findsFull (wT yX4_findsFull cX4_findsFull 4 none) rX4_findsFull D cy [.ref (ad 0), .int (iI x1)] (wMd cy ad o ss mm im wa le ro re fa nu) (fun u : AR × AR × AR => wMd cy ad u.1 ss u.2.1 im wa le ro re u.2.2 nu) (fun u => Q u.1 u.2.1 u.2.2) := by
  refine gI_V (by decide) (Nat.le_of_ble_eq_true rfl) ?_
  intro p e s m args below meth c A Qg F hK hA ret H locs ls hl hP hD hS
  have F : CallFix p m c cX4_findsFull 4 s args gT RX4 := F
  have hl : lv_has ls 4 [(0, .ref (ad 0)), (1, .int (iI x1))] := hl
  have L24 : ∀ (K17 : Int → Int → AR → AR → AR → Prop) (hK17 : ∀ (y1 : Int) (y2 : Int) (o : AR) (mm : AR) (fa : AR) (H : Heap) (locs : List Loc) (ls : Array Slot), K17 y1 y2 o mm fa → va_P D vwCl (wMd cy ad o ss mm im wa le ro re fa nu) H → va_D A (wMd cy ad o ss mm im wa le ro re fa nu) → va_S A s.heap H locs → lv_has ls 4 [(0, .ref (ad 0)), (1, .int (iI y1)), (2, .int (iI y2))] → W p l e rX4_findsFull s m args below meth c H locs 0 0 Qg (F0 m 17 ls [])) (n : Nat) (y1 : Int) (y2 : Int) (y3 : Int) (o : AR) (mm : AR) (fa : AR) (H : Heap) (locs : List Loc) (ls : Array Slot), wX4_findsFull_24 K17 Q n y1 y2 y3 o mm fa → va_P D vwCl (wMd cy ad o ss mm im wa le ro re fa nu) H → va_D A (wMd cy ad o ss mm im wa le ro re fa nu) → va_S A s.heap H locs → lv_has ls 4 [(0, .ref (ad 0)), (1, .int (iI y1)), (2, .int (iI y2)), (3, .int (iI y3))] → W p l e rX4_findsFull s m args below meth c H locs 0 0 Qg (F0 m 24 ls []) := by
    intro K17 hK17 n
    induction n with
    | zero => intro _ _ _ _ _ _ _ _ _ h; exact h.elim
    | succ n ih =>
      intro y1 y2 y3 o mm fa H locs ls h hP hD hS hl
      rw [wX4_findsFull_24_s] at h
      refine lv_iload_n F.1 F.2.1 dX4_findsFull_24 rfl (lv_at hl 3 rfl) ?_
      refine gv_bipush F ⟨by decide, by decide⟩ dX4_findsFull_25 ?_
      obtain ⟨g1, h⟩ := h
      refine gv_icmp_ge (tgt := 76) F g1 ⟨by decide, by decide⟩ dX4_findsFull_27 (by decide) (fun c2 => ?_) (fun c2 => ?_)
      · have h := h.1 c2
        refine lv_aload_n F.1 F.2.1 dX4_findsFull_76 rfl (lv_at hl 0 rfl) ?_
        refine lv_aload_n F.1 F.2.1 dX4_findsFull_77 rfl (lv_at hl 0 rfl) ?_
        refine gv_get F hin4 hK hP 0 rfl rfl 1 (by decide) k757 rfl dX4_findsFull_78 ?_
        refine gc_VV (As := [.ref (ad 2)]) (wn := fun u : AR × AR => wMd cy ad o ss u.2 im wa le ro re u.1 nu) F hK hA hP hD hS (cp_md_fm hP) (cd_md_fm hD) (fun u H1 hk h1 _ => cj_md_fm hP hD u.1 u.2 H1 hk h1) (c_X4_minute l D cy ad (ad 2) o fa mm _ h) (cwV 1 F.2.2.2.2 (gG_V k877 k879 k44 k67 k880) rfl rfl rfl hd_X4_minute ⟨Nat.le_of_ble_eq_true rfl, Nat.le_of_ble_eq_true rfl⟩) rfl rfl dX4_findsFull_81 rfl rfl hl.1 (Nat.le_of_ble_eq_true rfl) ⟨Nat.le_of_ble_eq_true rfl, Nat.le_of_ble_eq_true rfl⟩ (fun u H locs h hP hD hS => ?_)
        obtain ⟨z3, z4⟩ := u
        try dsimp only at h hP hD
        obtain ⟨v5, ev5⟩ : ∃ z : Int, z = y2 + 1 := ⟨_, rfl⟩
        have h := h v5 ev5
        refine gv_iinc (lv' := [(2, .int (iI v5)), (0, .ref (ad 0)), (1, .int (iI y1)), (3, .int (iI y3))]) F dX4_findsFull_84 hl (k := 2) rfl ev5 (by decide) rfl (fun ls hl => ?_)
        refine lv_goto (tgt := 17) F.1 F.2.1 dX4_findsFull_87 (by decide) ?_
        exact hK17 y1 v5 o z4 z3 H locs ls h hP hD hS (lv_sub hl [1, 2, 0] rfl)
      · have h := h.2 c2
        refine lv_aload_n F.1 F.2.1 dX4_findsFull_30 rfl (lv_at hl 0 rfl) ?_
        refine gv_get F hin4 hK hP 0 rfl rfl 1 (by decide) k757 rfl dX4_findsFull_31 ?_
        refine lv_iload_n F.1 F.2.1 dX4_findsFull_34 rfl (lv_at hl 3 rfl) ?_
        refine gc_SR (As := [.ref (ad 2), .int (iI y3)]) F hK hA hP hS (cp_md_m hP) (c_X4_inRoom l D cy (ad 2) mm y3 _ h) (cwS 2 F.2.2.2.2 (gG_S k1010 k1011 k67 k1012) rfl rfl rfl hd_X4_inRoom ⟨Nat.le_of_ble_eq_true rfl, Nat.le_of_ble_eq_true rfl⟩) dX4_findsFull_35 rfl rfl hl.1 (Nat.le_of_ble_eq_true rfl) ⟨Nat.le_of_ble_eq_true rfl, Nat.le_of_ble_eq_true rfl⟩ (fun u6 H locs h hP hS => ?_)
        refine lv_aload_n F.1 F.2.1 dX4_findsFull_38 rfl (lv_at hl 0 rfl) ?_
        refine gv_get F hin4 hK hP 0 rfl rfl 13 (by decide) k769 rfl dX4_findsFull_39 ?_
        obtain ⟨g7, h⟩ := h
        obtain ⟨g8, h⟩ := h
        refine gv_icmp_gt (tgt := 48) F g7 g8 dX4_findsFull_42 (by decide) (fun c9 => ?_) (fun c9 => ?_)
        · have h := h.1 c9
          refine lv_aload_n F.1 F.2.1 dX4_findsFull_48 rfl (lv_at hl 0 rfl) ?_
          refine lv_aload_n F.1 F.2.1 dX4_findsFull_49 rfl (lv_at hl 0 rfl) ?_
          refine gv_get F hin4 hK hP 0 rfl rfl 1 (by decide) k757 rfl dX4_findsFull_50 ?_
          refine lv_iload_n F.1 F.2.1 dX4_findsFull_53 rfl (lv_at hl 3 rfl) ?_
          refine gc_SR (As := [.ref (ad 2), .int (iI y3)]) F hK hA hP hS (cp_md_m hP) (c_X4_inRoom l D cy (ad 2) mm y3 _ h) (cwS 2 F.2.2.2.2 (gG_S k1010 k1011 k67 k1012) rfl rfl rfl hd_X4_inRoom ⟨Nat.le_of_ble_eq_true rfl, Nat.le_of_ble_eq_true rfl⟩) dX4_findsFull_54 rfl rfl hl.1 (Nat.le_of_ble_eq_true rfl) ⟨Nat.le_of_ble_eq_true rfl, Nat.le_of_ble_eq_true rfl⟩ (fun u10 H locs h hP hS => ?_)
          obtain ⟨z11, ez11⟩ : ∃ z : AR, z = su o 13 u10 := ⟨_, rfl⟩
          have h := h z11 ez11
          refine gv_put (ws' := wMd cy ad z11 ss mm im wa le ro re fa nu) F hin4 tyX4 tyX4_ok nmX4 hK hP hD hS 0 rfl rfl 13 (by decide) k769 rfl (ty := .int) (by decide +kernel) rfl rfl (Nat.le_of_ble_eq_true rfl) (by subst ez11; exact wMd_o13 rfl) dX4_findsFull_57 (fun H locs hP hD hS => ?_)
          refine lv_aload_n F.1 F.2.1 dX4_findsFull_60 rfl (lv_at hl 0 rfl) ?_
          refine lv_iload_n F.1 F.2.1 dX4_findsFull_61 rfl (lv_at hl 2 rfl) ?_
          obtain ⟨z12, ez12⟩ : ∃ z : AR, z = su z11 14 y2 := ⟨_, rfl⟩
          have h := h z12 ez12
          refine gv_put (ws' := wMd cy ad z12 ss mm im wa le ro re fa nu) F hin4 tyX4 tyX4_ok nmX4 hK hP hD hS 0 rfl rfl 14 (by decide) k770 rfl (ty := .int) (by decide +kernel) rfl rfl (Nat.le_of_ble_eq_true rfl) (by subst ez12; exact wMd_o14 rfl) dX4_findsFull_62 (fun H locs hP hD hS => ?_)
          refine lv_aload_n F.1 F.2.1 dX4_findsFull_65 rfl (lv_at hl 0 rfl) ?_
          refine lv_iload_n F.1 F.2.1 dX4_findsFull_66 rfl (lv_at hl 3 rfl) ?_
          obtain ⟨z13, ez13⟩ : ∃ z : AR, z = su z12 15 y3 := ⟨_, rfl⟩
          have h := h z13 ez13
          refine gv_put (ws' := wMd cy ad z13 ss mm im wa le ro re fa nu) F hin4 tyX4 tyX4_ok nmX4 hK hP hD hS 0 rfl rfl 15 (by decide) k771 rfl (ty := .int) (by decide +kernel) rfl rfl (Nat.le_of_ble_eq_true rfl) (by subst ez13; exact wMd_o15 rfl) dX4_findsFull_67 (fun H locs hP hD hS => ?_)
          obtain ⟨v14, ev14⟩ : ∃ z : Int, z = y3 + 1 := ⟨_, rfl⟩
          have h := h v14 ev14
          refine gv_iinc (lv' := [(3, .int (iI v14)), (0, .ref (ad 0)), (1, .int (iI y1)), (2, .int (iI y2))]) F dX4_findsFull_70 hl (k := 3) rfl ev14 (by decide) rfl (fun ls hl => ?_)
          refine lv_goto (tgt := 24) F.1 F.2.1 dX4_findsFull_73 (by decide) ?_
          exact ih y1 y2 v14 z13 mm fa H locs ls h hP hD hS (lv_sub hl [1, 2, 3, 0] rfl)
        · have h := h.2 c9
          refine lv_goto (tgt := 70) F.1 F.2.1 dX4_findsFull_45 (by decide) ?_
          obtain ⟨v15, ev15⟩ : ∃ z : Int, z = y3 + 1 := ⟨_, rfl⟩
          have h := h v15 ev15
          refine gv_iinc (lv' := [(3, .int (iI v15)), (0, .ref (ad 0)), (1, .int (iI y1)), (2, .int (iI y2))]) F dX4_findsFull_70 hl (k := 3) rfl ev15 (by decide) rfl (fun ls hl => ?_)
          refine lv_goto (tgt := 24) F.1 F.2.1 dX4_findsFull_73 (by decide) ?_
          exact ih y1 y2 v15 o mm fa H locs ls h hP hD hS (lv_sub hl [1, 2, 3, 0] rfl)
  have L17 : ∀ (n : Nat) (y1 : Int) (y2 : Int) (o : AR) (mm : AR) (fa : AR) (H : Heap) (locs : List Loc) (ls : Array Slot), wX4_findsFull_17 Q n y1 y2 o mm fa → va_P D vwCl (wMd cy ad o ss mm im wa le ro re fa nu) H → va_D A (wMd cy ad o ss mm im wa le ro re fa nu) → va_S A s.heap H locs → lv_has ls 4 [(0, .ref (ad 0)), (1, .int (iI y1)), (2, .int (iI y2))] → W p l e rX4_findsFull s m args below meth c H locs 0 0 Qg (F0 m 17 ls []) := by
    intro  n
    induction n with
    | zero => intro _ _ _ _ _ _ _ _ h; exact h.elim
    | succ n ih =>
      intro y1 y2 o mm fa H locs ls h hP hD hS hl
      rw [wX4_findsFull_17_s] at h
      refine lv_iload_n F.1 F.2.1 dX4_findsFull_17 rfl (lv_at hl 2 rfl) ?_
      refine lv_iload_n F.1 F.2.1 dX4_findsFull_18 rfl (lv_at hl 1 rfl) ?_
      obtain ⟨g16, h⟩ := h
      obtain ⟨g17, h⟩ := h
      refine gv_icmp_gt (tgt := 90) F g16 g17 dX4_findsFull_19 (by decide) (fun c18 => ?_) (fun c18 => ?_)
      · have h := h.1 c18
        exact ret (o, mm, fa) H locs 90 ls h hP hD hS dX4_findsFull_90
      · have h := h.2 c18
        refine gv_iconst F dX4_findsFull_22 ?_
        refine lv_istore_n (lv' := [(3, .int (iI 0)), (0, .ref (ad 0)), (1, .int (iI y1)), (2, .int (iI y2))]) F.1 F.2.1 dX4_findsFull_23 rfl hl (by decide) rfl (fun ls hl => ?_)
        obtain ⟨n19, h⟩ := h
        exact L24 _ ih n19 y1 y2 0 o mm fa H locs ls h hP hD hS (lv_sub hl [1, 2, 3, 0] rfl)
  refine lv_aload_n F.1 F.2.1 dX4_findsFull_0 rfl (lv_at hl 0 rfl) ?_
  refine gv_iconst F dX4_findsFull_1 ?_
  obtain ⟨z20, ez20⟩ : ∃ z : AR, z = su o 13 0 := ⟨_, rfl⟩
  have h := h z20 ez20
  refine gv_put (ws' := wMd cy ad z20 ss mm im wa le ro re fa nu) F hin4 tyX4 tyX4_ok nmX4 hK hP hD hS 0 rfl rfl 13 (by decide) k769 rfl (ty := .int) (by decide +kernel) rfl rfl (Nat.le_of_ble_eq_true rfl) (by subst ez20; exact wMd_o13 rfl) dX4_findsFull_2 (fun H locs hP hD hS => ?_)
  refine lv_aload_n F.1 F.2.1 dX4_findsFull_5 rfl (lv_at hl 0 rfl) ?_
  refine gv_iconst F dX4_findsFull_6 ?_
  obtain ⟨z21, ez21⟩ : ∃ z : AR, z = su z20 14 0 := ⟨_, rfl⟩
  have h := h z21 ez21
  refine gv_put (ws' := wMd cy ad z21 ss mm im wa le ro re fa nu) F hin4 tyX4 tyX4_ok nmX4 hK hP hD hS 0 rfl rfl 14 (by decide) k770 rfl (ty := .int) (by decide +kernel) rfl rfl (Nat.le_of_ble_eq_true rfl) (by subst ez21; exact wMd_o14 rfl) dX4_findsFull_7 (fun H locs hP hD hS => ?_)
  refine lv_aload_n F.1 F.2.1 dX4_findsFull_10 rfl (lv_at hl 0 rfl) ?_
  refine gv_iconst F dX4_findsFull_11 ?_
  obtain ⟨z22, ez22⟩ : ∃ z : AR, z = su z21 15 0 := ⟨_, rfl⟩
  have h := h z22 ez22
  refine gv_put (ws' := wMd cy ad z22 ss mm im wa le ro re fa nu) F hin4 tyX4 tyX4_ok nmX4 hK hP hD hS 0 rfl rfl 15 (by decide) k771 rfl (ty := .int) (by decide +kernel) rfl rfl (Nat.le_of_ble_eq_true rfl) (by subst ez22; exact wMd_o15 rfl) dX4_findsFull_12 (fun H locs hP hD hS => ?_)
  refine gv_iconst F dX4_findsFull_15 ?_
  refine lv_istore_n (lv' := [(2, .int (iI 0)), (0, .ref (ad 0)), (1, .int (iI x1))]) F.1 F.2.1 dX4_findsFull_16 rfl hl (by decide) rfl (fun ls hl => ?_)
  obtain ⟨n23, h⟩ := h
  exact L17 n23 x1 0 z22 mm fa H locs ls h hP hD hS (lv_sub hl [1, 2, 0] rfl)
