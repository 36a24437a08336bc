abbrev rX4_full : Room := { frames := 6, cells := 0, slots := 0, locals := 141 }
set_option maxHeartbeats 4000000 in
set_option maxRecDepth 20000 in
theorem c_X4_full (l : Launch) (D : va_G) (cy : ClassId) (ad : Nat → Nat) (o : AR) (ss : AR) (mm : AR) (im : AR) (wa : AR) (le : AR) (ro : AR) (re : AR) (fa : AR) (nu : AR) (x1 x2 : Int) (Q : Int → AR → AR → AR → AR → Prop) (h : wX4_full o ss mm re fa x1 x2 Q) : MetI l yX4_full (wT yX4_full cX4_full 4 (some .int)) rX4_full D cy [.ref (ad 0), .int (iI x1), .int (iI x2)] (wMd cy ad o ss mm im wa le ro re fa nu) (fun u : AR × AR × AR × AR => wMd cy ad u.1 ss u.2.1 im wa le ro u.2.2.1 u.2.2.2 nu) (fun r u => Q r u.1 u.2.1 u.2.2.1 u.2.2.2) := by
  refine gI_I (by decide) (Nat.le_of_ble_eq_true rfl) ?_
  intro p e s m args below meth c A Qg F hK hA ret H locs ls hl hP hD hS
  have F : CallFix p m c cX4_full 4 s args gT RX4 := F
  have hl : lv_has ls 4 [(0, .ref (ad 0)), (1, .int (iI x1)), (2, .int (iI x2))] := hl
  have L21 : ∀ (y1 : Int) (y2 : Int) (y3 : Int) (o : AR) (mm : AR) (re : AR) (fa : AR) (H : Heap) (locs : List Loc) (ls : Array Slot), wX4_full_21 ss Q y1 y2 y3 o mm re fa → va_P D vwCl (wMd cy ad o ss mm im wa le ro re fa nu) H → va_D A (wMd cy ad o ss mm im wa le ro re fa nu) → va_S A s.heap H locs → lv_has ls 4 [(0, .ref (ad 0)), (1, .int (iI y1)), (2, .int (iI y2)), (3, .int (iI y3))] → W p l e rX4_full s m args below meth c H locs 0 0 Qg (F0 m 21 ls []) := by
    intro y1 y2 y3 o mm re fa H locs ls h hP hD hS hl
    refine lv_iload_n F.1 F.2.1 dX4_full_21 rfl (lv_at hl 3 rfl) ?_
    obtain ⟨g1, h⟩ := h
    refine gv_if_eq (tgt := 31) F g1 dX4_full_22 (by decide) (fun c2 => ?_) (fun c2 => ?_)
    · have h := h.1 c2
      refine lv_aload_n F.1 F.2.1 dX4_full_31 rfl (lv_at hl 0 rfl) ?_
      refine gv_get F hin4 hK hP 0 rfl rfl 0 (by decide) k756 rfl dX4_full_32 ?_
      refine lv_aload_n F.1 F.2.1 dX4_full_35 rfl (lv_at hl 0 rfl) ?_
      refine gv_get F hin4 hK hP 0 rfl rfl 1 (by decide) k757 rfl dX4_full_36 ?_
      refine gc_SV (As := [.ref (ad 1), .ref (ad 2)]) (wn := fun u : AR => wMd cy ad o ss u im wa le ro re fa nu) F hK hA hP hD hS (cp_md_s_m hP) (cd_md_s_m hD) (fun u H1 hk h1 _ => cj_md_s_m hP hD u H1 hk h1) (c_X4_lays l D cy (ad 1) (ad 2) ss mm _ h) (cwS 2 F.2.2.2.2 (gG_S k842 k843 k67 k844) rfl rfl rfl hd_X4_lays ⟨Nat.le_of_ble_eq_true rfl, Nat.le_of_ble_eq_true rfl⟩) dX4_full_39 rfl rfl hl.1 (Nat.le_of_ble_eq_true rfl) ⟨Nat.le_of_ble_eq_true rfl, Nat.le_of_ble_eq_true rfl⟩ (fun z3 H locs h hP hD hS => ?_)
      try dsimp only at h hP hD
      refine lv_aload_n F.1 F.2.1 dX4_full_42 rfl (lv_at hl 0 rfl) ?_
      refine lv_iload_n F.1 F.2.1 dX4_full_43 rfl (lv_at hl 1 rfl) ?_
      refine gc_VV (As := [.int (iI y1)]) (wn := fun u : AR × AR × AR => wMd cy ad u.1 ss u.2.1 im wa le ro re u.2.2 nu) F hK hA hP hD hS hP hD (fun u H1 _ h1 h2 => ⟨h1, h2⟩) (c_X4_findsFull l D cy ad o ss z3 im wa le ro re fa nu y1 _ h) (cwV 1 F.2.2.2.2 (gG_V k1006 k1008 k53 k67 k1009) rfl rfl rfl hd_X4_findsFull ⟨Nat.le_of_ble_eq_true rfl, Nat.le_of_ble_eq_true rfl⟩) rfl rfl dX4_full_44 rfl rfl hl.1 (Nat.le_of_ble_eq_true rfl) ⟨Nat.le_of_ble_eq_true rfl, Nat.le_of_ble_eq_true rfl⟩ (fun u H locs h hP hD hS => ?_)
      obtain ⟨z4, z5, z6⟩ := u
      try dsimp only at h hP hD
      refine lv_iload_n F.1 F.2.1 dX4_full_47 rfl (lv_at hl 2 rfl) ?_
      obtain ⟨g7, h⟩ := h
      refine gv_if_ne (tgt := 58) F g7 dX4_full_48 (by decide) (fun c8 => ?_) (fun c8 => ?_)
      · have h := h.1 c8
        refine lv_iload_n F.1 F.2.1 dX4_full_58 rfl (lv_at hl 2 rfl) ?_
        refine gv_iconst F dX4_full_59 ?_
        refine gv_icmp_ne (tgt := 70) F g7 ⟨by decide, by decide⟩ dX4_full_60 (by decide) (fun c9 => ?_) (fun c9 => ?_)
        · have h := h.1 c9
          refine lv_aload_n F.1 F.2.1 dX4_full_70 rfl (lv_at hl 0 rfl) ?_
          refine gv_get F hin4 hK hP 0 rfl rfl 15 (by decide) k771 rfl dX4_full_71 ?_
          exact ret (z4 15) (z4, z5, re, z6) H locs 74 ls h rfl hP hD hS dX4_full_74
        · have h := h.2 c9
          refine lv_aload_n F.1 F.2.1 dX4_full_63 rfl (lv_at hl 0 rfl) ?_
          refine gv_get F hin4 hK hP 0 rfl rfl 14 (by decide) k770 rfl dX4_full_64 ?_
          refine lv_goto (tgt := 74) F.1 F.2.1 dX4_full_67 (by decide) ?_
          exact ret (z4 14) (z4, z5, re, z6) H locs 74 ls h rfl hP hD hS dX4_full_74
      · have h := h.2 c8
        refine lv_aload_n F.1 F.2.1 dX4_full_51 rfl (lv_at hl 0 rfl) ?_
        refine gv_get F hin4 hK hP 0 rfl rfl 13 (by decide) k769 rfl dX4_full_52 ?_
        refine lv_goto (tgt := 74) F.1 F.2.1 dX4_full_55 (by decide) ?_
        exact ret (z4 13) (z4, z5, re, z6) H locs 74 ls h rfl hP hD hS dX4_full_74
    · have h := h.2 c2
      refine lv_aload_n F.1 F.2.1 dX4_full_25 rfl (lv_at hl 0 rfl) ?_
      refine lv_iload_n F.1 F.2.1 dX4_full_26 rfl (lv_at hl 3 rfl) ?_
      refine gc_VI (As := [.int (iI y3)]) (wn := fun u : AR => wMd cy ad o ss mm im wa le ro u fa nu) F hK hA hP hD hS hP hD (fun u H1 _ h1 h2 => ⟨h1, h2⟩) (c_X4_no l D cy ad o ss mm im wa le ro re fa nu y3 _ h) (cwV 1 F.2.2.2.2 (gG_V k812 k814 k34 k67 k815) rfl rfl rfl hd_X4_no ⟨Nat.le_of_ble_eq_true rfl, Nat.le_of_ble_eq_true rfl⟩) rfl rfl dX4_full_27 rfl rfl hl.1 (Nat.le_of_ble_eq_true rfl) ⟨Nat.le_of_ble_eq_true rfl, Nat.le_of_ble_eq_true rfl⟩ (fun u11 z10 H locs h hP hD hS => ?_)
      try dsimp only at h hP hD
      exact ret u11 (o, mm, z10, fa) H locs 30 ls h rfl hP hD hS dX4_full_30
  refine lv_iload_n F.1 F.2.1 dX4_full_0 rfl (lv_at hl 1 rfl) ?_
  refine gc_SR (As := [.int (iI x1)]) F hK hA hP hS gPnil (c_X4_wrongMinutes l D cy x1 _ h) (cwS 1 F.2.2.2.2 (gG_S k959 k960 k67 k961) rfl rfl rfl hd_X4_wrongMinutes ⟨Nat.le_of_ble_eq_true rfl, Nat.le_of_ble_eq_true rfl⟩) dX4_full_1 rfl rfl hl.1 (Nat.le_of_ble_eq_true rfl) ⟨Nat.le_of_ble_eq_true rfl, Nat.le_of_ble_eq_true rfl⟩ (fun u12 H locs h hP hS => ?_)
  refine lv_istore_n (lv' := [(3, .int (iI u12)), (0, .ref (ad 0)), (1, .int (iI x1)), (2, .int (iI x2))]) F.1 F.2.1 dX4_full_4 rfl hl (by decide) rfl (fun ls hl => ?_)
  refine lv_iload_n F.1 F.2.1 dX4_full_5 rfl (lv_at hl 0 rfl) ?_
  obtain ⟨g13, h⟩ := h
  refine gv_if_ne (tgt := 21) F g13 dX4_full_6 (by decide) (fun c14 => ?_) (fun c14 => ?_)
  · have h := h.1 c14
    exact L21 x1 x2 u12 o mm re fa H locs ls h hP hD hS (lv_sub hl [1, 2, 3, 0] rfl)
  · have h := h.2 c14
    refine lv_iload_n F.1 F.2.1 dX4_full_9 rfl (lv_at hl 3 rfl) ?_
    refine gv_iconst F dX4_full_10 ?_
    refine gv_iconst F dX4_full_11 ?_
    refine gc_SR (As := [.int (iI x2), .int (iI 0), .int (iI 2)]) F hK hA hP hS gPnil (c_X4_isIn l D cy x2 0 2 _ h) (cwS 3 F.2.2.2.2 (gG_S k832 k833 k67 k834) rfl rfl rfl hd_X4_isIn ⟨Nat.le_of_ble_eq_true rfl, Nat.le_of_ble_eq_true rfl⟩) dX4_full_12 rfl rfl hl.1 (Nat.le_of_ble_eq_true rfl) ⟨Nat.le_of_ble_eq_true rfl, Nat.le_of_ble_eq_true rfl⟩ (fun u15 H locs h hP hS => ?_)
    obtain ⟨bu15, h⟩ := h
    refine gv_if_ne (tgt := 21) F (gRb bu15) dX4_full_15 (by decide) (fun c16 => ?_) (fun c16 => ?_)
    · have h := h.1 c16
      exact L21 x1 x2 u12 o mm re fa H locs ls h hP hD hS (lv_sub hl [1, 2, 3, 0] rfl)
    · have h := h.2 c16
      refine gv_bipush F ⟨by decide, by decide⟩ dX4_full_18 ?_
      refine lv_istore_n (lv' := [(3, .int (iI (-2))), (0, .ref (ad 0)), (1, .int (iI x1)), (2, .int (iI x2))]) F.1 F.2.1 dX4_full_20 rfl hl (by decide) rfl (fun ls hl => ?_)
      exact L21 x1 x2 (-2) o mm re fa H locs ls h hP hD hS (lv_sub hl [1, 2, 3, 0] rfl)
abbrev rX4_right : Room := { frames := 6, cells := 0, slots := 0, locals := 141 }
set_option maxHeartbeats 4000000 in
set_option maxRecDepth 20000 in
theorem c_X4_right (l : Launch) (D : va_G) (cy : ClassId) (ad : Nat → Nat) (o : AR) (ss : AR) (mm : AR) (im : AR) (wa : AR) (le : AR) (ro : AR) (re : AR) (fa : AR) (nu : AR) (x1 : Int) (Q : Int → AR → AR → AR → Prop) (h : wX4_right ss mm re fa x1 Q) : MetI l yX4_right (wT yX4_right cX4_right 3 (some .int)) rX4_right D cy [.ref (ad 0), .int (iI x1)] (wMd cy ad o ss mm im wa le ro re fa nu) (fun u : AR × AR × AR => wMd cy ad o ss u.1 im wa le ro u.2.1 u.2.2 nu) (fun r u => Q r u.1 u.2.1 u.2.2) := by
  refine gI_I (by decide) (Nat.le_of_ble_eq_true rfl) ?_
  intro p e s m args below meth c A Qg F hK hA ret H locs ls hl hP hD hS
  have F : CallFix p m c cX4_right 3 s args gT RX4 := F
  have hl : lv_has ls 3 [(0, .ref (ad 0)), (1, .int (iI x1))] := hl
  refine lv_iload_n F.1 F.2.1 dX4_right_0 rfl (lv_at hl 1 rfl) ?_
  refine gc_SR (As := [.int (iI x1)]) F hK hA hP hS gPnil (c_X4_wrongMinutes l D cy x1 _ h) (cwS 1 F.2.2.2.2 (gG_S k959 k960 k67 k961) rfl rfl rfl hd_X4_wrongMinutes ⟨Nat.le_of_ble_eq_true rfl, Nat.le_of_ble_eq_true rfl⟩) dX4_right_1 rfl rfl hl.1 (Nat.le_of_ble_eq_true rfl) ⟨Nat.le_of_ble_eq_true rfl, Nat.le_of_ble_eq_true rfl⟩ (fun u1 H locs h hP hS => ?_)
  refine lv_istore_n (lv' := [(2, .int (iI u1)), (0, .ref (ad 0)), (1, .int (iI x1))]) F.1 F.2.1 dX4_right_4 rfl hl (by decide) rfl (fun ls hl => ?_)
  refine lv_iload_n F.1 F.2.1 dX4_right_5 rfl (lv_at hl 0 rfl) ?_
  obtain ⟨g2, h⟩ := h
  refine gv_if_eq (tgt := 15) F g2 dX4_right_6 (by decide) (fun c3 => ?_) (fun c3 => ?_)
  · have h := h.1 c3
    refine lv_aload_n F.1 F.2.1 dX4_right_15 rfl (lv_at hl 1 rfl) ?_
    refine gv_get F hin4 hK hP 0 rfl rfl 0 (by decide) k756 rfl dX4_right_16 ?_
    refine lv_aload_n F.1 F.2.1 dX4_right_19 rfl (lv_at hl 1 rfl) ?_
    refine gv_get F hin4 hK hP 0 rfl rfl 1 (by decide) k757 rfl dX4_right_20 ?_
    refine gc_SV (As := [.ref (ad 1), .ref (ad 2)]) (wn := fun u : AR => wMd cy ad o ss u im wa le ro re fa nu) F hK hA hP hD hS (cp_md_s_m hP) (cd_md_s_m hD) (fun u H1 hk h1 _ => cj_md_s_m hP hD u H1 hk h1) (c_X4_lays l D cy (ad 1) (ad 2) ss mm _ h) (cwS 2 F.2.2.2.2 (gG_S k842 k843 k67 k844) rfl rfl rfl hd_X4_lays ⟨Nat.le_of_ble_eq_true rfl, Nat.le_of_ble_eq_true rfl⟩) dX4_right_23 rfl rfl hl.1 (Nat.le_of_ble_eq_true rfl) ⟨Nat.le_of_ble_eq_true rfl, Nat.le_of_ble_eq_true rfl⟩ (fun z4 H locs h hP hD hS => ?_)
    try dsimp only at h hP hD
    refine lv_aload_n F.1 F.2.1 dX4_right_26 rfl (lv_at hl 1 rfl) ?_
    refine lv_aload_n F.1 F.2.1 dX4_right_27 rfl (lv_at hl 1 rfl) ?_
    refine gv_get F hin4 hK hP 0 rfl rfl 1 (by decide) k757 rfl dX4_right_28 ?_
    refine lv_iload_n F.1 F.2.1 dX4_right_31 rfl (lv_at hl 2 rfl) ?_
    refine gc_VV (As := [.ref (ad 2), .int (iI x1)]) (wn := fun u : AR × AR => wMd cy ad o ss u.2 im wa le ro re u.1 nu) F hK hA hP hD hS (cp_md_fm hP) (cd_md_fm hD) (fun u H1 hk h1 _ => cj_md_fm hP hD u.1 u.2 H1 hk h1) (c_X4_minutesOn l D cy ad (ad 2) o fa z4 x1 _ h) (cwV 2 F.2.2.2.2 (gG_V k873 k875 k43 k67 k876) rfl rfl rfl hd_X4_minutesOn ⟨Nat.le_of_ble_eq_true rfl, Nat.le_of_ble_eq_true rfl⟩) rfl rfl dX4_right_32 rfl rfl hl.1 (Nat.le_of_ble_eq_true rfl) ⟨Nat.le_of_ble_eq_true rfl, Nat.le_of_ble_eq_true rfl⟩ (fun u H locs h hP hD hS => ?_)
    obtain ⟨z5, z6⟩ := u
    try dsimp only at h hP hD
    refine lv_aload_n F.1 F.2.1 dX4_right_35 rfl (lv_at hl 1 rfl) ?_
    refine gv_get F hin4 hK hP 0 rfl rfl 1 (by decide) k757 rfl dX4_right_36 ?_
    refine gc_SR (As := [.ref (ad 2)]) F hK hA hP hS (cp_md_m hP) (c_X4_rightAll l D cy (ad 2) z6 _ h) (cwS 1 F.2.2.2.2 (gG_S k949 k950 k67 k951) rfl rfl rfl hd_X4_rightAll ⟨Nat.le_of_ble_eq_true rfl, Nat.le_of_ble_eq_true rfl⟩) dX4_right_39 rfl rfl hl.1 (Nat.le_of_ble_eq_true rfl) ⟨Nat.le_of_ble_eq_true rfl, Nat.le_of_ble_eq_true rfl⟩ (fun u7 H locs h hP hS => ?_)
    exact ret u7 (z6, re, z5) H locs 42 ls h rfl hP hD hS dX4_right_42
  · have h := h.2 c3
    refine lv_aload_n F.1 F.2.1 dX4_right_9 rfl (lv_at hl 1 rfl) ?_
    refine lv_iload_n F.1 F.2.1 dX4_right_10 rfl (lv_at hl 0 rfl) ?_
    refine gc_VI (As := [.int (iI u1)]) (wn := fun u : AR => wMd cy ad o ss mm im wa le ro u fa nu) F hK hA hP hD hS hP hD (fun u H1 _ h1 h2 => ⟨h1, h2⟩) (c_X4_no l D cy ad o ss mm im wa le ro re fa nu u1 _ h) (cwV 1 F.2.2.2.2 (gG_V k812 k814 k34 k67 k815) rfl rfl rfl hd_X4_no ⟨Nat.le_of_ble_eq_true rfl, Nat.le_of_ble_eq_true rfl⟩) rfl rfl dX4_right_11 rfl rfl hl.1 (Nat.le_of_ble_eq_true rfl) ⟨Nat.le_of_ble_eq_true rfl, Nat.le_of_ble_eq_true rfl⟩ (fun u9 z8 H locs h hP hD hS => ?_)
    try dsimp only at h hP hD
    exact ret u9 (mm, z8, fa) H locs 14 ls h rfl hP hD hS dX4_right_14
abbrev rX4_bestFirst : Room := { frames := 6, cells := 0, slots := 0, locals := 141 }
set_option maxHeartbeats 4000000 in
set_option maxRecDepth 20000 in
theorem c_X4_bestFirst (l : Launch) (D : va_G) (cy : ClassId) (ad : Nat → Nat) (o : AR) (ss : AR) (mm : AR) (im : AR) (wa : AR) (le : AR) (ro : AR) (re : AR) (fa : AR) (nu : AR) (x1 x2 : Int) (Q : Int → AR → AR → AR → Prop) (h : wX4_bestFirst ss mm re fa x1 x2 Q) : MetI l yX4_bestFirst (wT yX4_bestFirst cX4_bestFirst 7 (some .int)) rX4_bestFirst D cy [.ref (ad 0), .int (iI x1), .int (iI x2)] (wMd cy ad o ss mm im wa le ro re fa nu) (fun u : AR × AR × AR => wMd cy ad o ss u.1 im wa le ro u.2.1 u.2.2 nu) (fun r u => Q r u.1 u.2.1 u.2.2) := by
  refine gI_I (by decide) (Nat.le_of_ble_eq_true rfl) ?_
  intro p e s m args below meth c A Qg F hK hA ret H locs ls hl hP hD hS
  have F : CallFix p m c cX4_bestFirst 7 s args gT RX4 := F
  have hl : lv_has ls 7 [(0, .ref (ad 0)), (1, .int (iI x1)), (2, .int (iI x2))] := hl
  have L113 : ∀ (K48 : Int → Int → Int → Int → Int → AR → AR → AR → Prop) (hK48 : ∀ (y1 : Int) (y2 : Int) (y3 : Int) (y4 : Int) (y5 : Int) (mm : AR) (re : AR) (fa : AR) (H : Heap) (locs : List Loc) (ls : Array Slot), K48 y1 y2 y3 y4 y5 mm re fa → va_P D vwCl (wMd cy ad o ss mm im wa le ro re fa nu) H → va_D A (wMd cy ad o ss mm im wa le ro re fa nu) → va_S A s.heap H locs → lv_has ls 7 [(0, .ref (ad 0)), (1, .int (iI y1)), (2, .int (iI y2)), (3, .int (iI y3)), (4, .int (iI y4)), (5, .int (iI y5))] → W p l e rX4_bestFirst s m args below meth c H locs 0 0 Qg (F0 m 48 ls [])) (y1 : Int) (y2 : Int) (y3 : Int) (y4 : Int) (y5 : Int) (t0 : Int) (mm : AR) (re : AR) (fa : AR) (H : Heap) (locs : List Loc) (ls : Array Slot), wX4_bestFirst_113 ss K48 Q y1 y2 y3 y4 y5 t0 mm re fa → va_P D vwCl (wMd cy ad o ss mm im wa le ro re fa nu) H → va_D A (wMd cy ad o ss mm im wa le ro re fa nu) → va_S A s.heap H locs → lv_has ls 7 [(0, .ref (ad 0)), (1, .int (iI y1)), (2, .int (iI y2)), (3, .int (iI y3)), (4, .int (iI y4)), (5, .int (iI y5))] → W p l e rX4_bestFirst s m args below meth c H locs 0 0 Qg (F0 m 113 ls [.int (iI t0)]) := by
    intro K48 hK48
    intro y1 y2 y3 y4 y5 t0 mm re fa H locs ls h hP hD hS hl
    refine lv_istore (lv' := [(6, .int (iI t0)), (0, .ref (ad 0)), (1, .int (iI y1)), (2, .int (iI y2)), (3, .int (iI y3)), (4, .int (iI y4)), (5, .int (iI y5))]) F.1 F.2.1 dX4_bestFirst_113 hl (by decide) rfl (fun ls hl => ?_)
    refine lv_iload F.1 F.2.1 dX4_bestFirst_115 (lv_at hl 0 rfl) ?_
    obtain ⟨g1, h⟩ := h
    refine gv_if_lt (tgt := 151) F g1 dX4_bestFirst_117 (by decide) (fun c2 => ?_) (fun c2 => ?_)
    · have h := h.1 c2
      obtain ⟨v3, ev3⟩ : ∃ z : Int, z = y5 + 1 := ⟨_, rfl⟩
      have h := h v3 ev3
      refine gv_iinc (lv' := [(5, .int (iI v3)), (6, .int (iI t0)), (0, .ref (ad 0)), (1, .int (iI y1)), (2, .int (iI y2)), (3, .int (iI y3)), (4, .int (iI y4))]) F dX4_bestFirst_151 hl (k := 6) rfl ev3 (by decide) rfl (fun ls hl => ?_)
      refine lv_goto (tgt := 48) F.1 F.2.1 dX4_bestFirst_154 (by decide) ?_
      exact hK48 y1 y2 y3 y4 v3 mm re fa H locs ls h hP hD hS (lv_sub hl [2, 3, 4, 5, 6, 0] rfl)
    · have h := h.2 c2
      refine lv_iload_n F.1 F.2.1 dX4_bestFirst_120 rfl (lv_at hl 3 rfl) ?_
      obtain ⟨g4, h⟩ := h
      refine gv_if_ne (tgt := 134) F g4 dX4_bestFirst_121 (by decide) (fun c5 => ?_) (fun c5 => ?_)
      · have h := h.1 c5
        refine lv_iload F.1 F.2.1 dX4_bestFirst_134 (lv_at hl 0 rfl) ?_
        refine lv_iload F.1 F.2.1 dX4_bestFirst_136 (lv_at hl 5 rfl) ?_
        obtain ⟨g6, h⟩ := h
        refine gv_icmp_gt (tgt := 144) F g1 g6 dX4_bestFirst_138 (by decide) (fun c7 => ?_) (fun c7 => ?_)
        · have h := h.1 c7
          refine lv_iload F.1 F.2.1 dX4_bestFirst_144 (lv_at hl 6 rfl) ?_
          refine lv_istore_n (lv' := [(3, .int (iI y5)), (6, .int (iI t0)), (0, .ref (ad 0)), (1, .int (iI y1)), (2, .int (iI y2)), (4, .int (iI y4)), (5, .int (iI y5))]) F.1 F.2.1 dX4_bestFirst_146 rfl hl (by decide) rfl (fun ls hl => ?_)
          refine lv_iload F.1 F.2.1 dX4_bestFirst_147 (lv_at hl 1 rfl) ?_
          refine lv_istore (lv' := [(4, .int (iI t0)), (3, .int (iI y5)), (6, .int (iI t0)), (0, .ref (ad 0)), (1, .int (iI y1)), (2, .int (iI y2)), (5, .int (iI y5))]) F.1 F.2.1 dX4_bestFirst_149 hl (by decide) rfl (fun ls hl => ?_)
          obtain ⟨v8, ev8⟩ : ∃ z : Int, z = y5 + 1 := ⟨_, rfl⟩
          have h := h v8 ev8
          refine gv_iinc (lv' := [(5, .int (iI v8)), (4, .int (iI t0)), (3, .int (iI y5)), (6, .int (iI t0)), (0, .ref (ad 0)), (1, .int (iI y1)), (2, .int (iI y2))]) F dX4_bestFirst_151 hl (k := 6) rfl ev8 (by decide) rfl (fun ls hl => ?_)
          refine lv_goto (tgt := 48) F.1 F.2.1 dX4_bestFirst_154 (by decide) ?_
          exact hK48 y1 y2 y5 t0 v8 mm re fa H locs ls h hP hD hS (lv_sub hl [4, 5, 6, 2, 1, 0] rfl)
        · have h := h.2 c7
          refine lv_goto (tgt := 151) F.1 F.2.1 dX4_bestFirst_141 (by decide) ?_
          obtain ⟨v9, ev9⟩ : ∃ z : Int, z = y5 + 1 := ⟨_, rfl⟩
          have h := h v9 ev9
          refine gv_iinc (lv' := [(5, .int (iI v9)), (6, .int (iI t0)), (0, .ref (ad 0)), (1, .int (iI y1)), (2, .int (iI y2)), (3, .int (iI y3)), (4, .int (iI y4))]) F dX4_bestFirst_151 hl (k := 6) rfl ev9 (by decide) rfl (fun ls hl => ?_)
          refine lv_goto (tgt := 48) F.1 F.2.1 dX4_bestFirst_154 (by decide) ?_
          exact hK48 y1 y2 y3 y4 v9 mm re fa H locs ls h hP hD hS (lv_sub hl [2, 3, 4, 5, 6, 0] rfl)
      · have h := h.2 c5
        refine lv_iload F.1 F.2.1 dX4_bestFirst_124 (lv_at hl 0 rfl) ?_
        refine lv_iload F.1 F.2.1 dX4_bestFirst_126 (lv_at hl 5 rfl) ?_
        obtain ⟨g10, h⟩ := h
        refine gv_icmp_lt (tgt := 144) F g1 g10 dX4_bestFirst_128 (by decide) (fun c11 => ?_) (fun c11 => ?_)
        · have h := h.1 c11
          refine lv_iload F.1 F.2.1 dX4_bestFirst_144 (lv_at hl 6 rfl) ?_
          refine lv_istore_n (lv' := [(3, .int (iI y5)), (6, .int (iI t0)), (0, .ref (ad 0)), (1, .int (iI y1)), (2, .int (iI y2)), (4, .int (iI y4)), (5, .int (iI y5))]) F.1 F.2.1 dX4_bestFirst_146 rfl hl (by decide) rfl (fun ls hl => ?_)
          refine lv_iload F.1 F.2.1 dX4_bestFirst_147 (lv_at hl 1 rfl) ?_
          refine lv_istore (lv' := [(4, .int (iI t0)), (3, .int (iI y5)), (6, .int (iI t0)), (0, .ref (ad 0)), (1, .int (iI y1)), (2, .int (iI y2)), (5, .int (iI y5))]) F.1 F.2.1 dX4_bestFirst_149 hl (by decide) rfl (fun ls hl => ?_)
          obtain ⟨v12, ev12⟩ : ∃ z : Int, z = y5 + 1 := ⟨_, rfl⟩
          have h := h v12 ev12
          refine gv_iinc (lv' := [(5, .int (iI v12)), (4, .int (iI t0)), (3, .int (iI y5)), (6, .int (iI t0)), (0, .ref (ad 0)), (1, .int (iI y1)), (2, .int (iI y2))]) F dX4_bestFirst_151 hl (k := 6) rfl ev12 (by decide) rfl (fun ls hl => ?_)
          refine lv_goto (tgt := 48) F.1 F.2.1 dX4_bestFirst_154 (by decide) ?_
          exact hK48 y1 y2 y5 t0 v12 mm re fa H locs ls h hP hD hS (lv_sub hl [4, 5, 6, 2, 1, 0] rfl)
        · have h := h.2 c11
          refine lv_goto (tgt := 151) F.1 F.2.1 dX4_bestFirst_131 (by decide) ?_
          obtain ⟨v13, ev13⟩ : ∃ z : Int, z = y5 + 1 := ⟨_, rfl⟩
          have h := h v13 ev13
          refine gv_iinc (lv' := [(5, .int (iI v13)), (6, .int (iI t0)), (0, .ref (ad 0)), (1, .int (iI y1)), (2, .int (iI y2)), (3, .int (iI y3)), (4, .int (iI y4))]) F dX4_bestFirst_151 hl (k := 6) rfl ev13 (by decide) rfl (fun ls hl => ?_)
          refine lv_goto (tgt := 48) F.1 F.2.1 dX4_bestFirst_154 (by decide) ?_
          exact hK48 y1 y2 y3 y4 v13 mm re fa H locs ls h hP hD hS (lv_sub hl [2, 3, 4, 5, 6, 0] rfl)
  have L93 : ∀ (K48 : Int → Int → Int → Int → Int → AR → AR → AR → Prop) (hK48 : ∀ (y1 : Int) (y2 : Int) (y3 : Int) (y4 : Int) (y5 : Int) (mm : AR) (re : AR) (fa : AR) (H : Heap) (locs : List Loc) (ls : Array Slot), K48 y1 y2 y3 y4 y5 mm re fa → va_P D vwCl (wMd cy ad o ss mm im wa le ro re fa nu) H → va_D A (wMd cy ad o ss mm im wa le ro re fa nu) → va_S A s.heap H locs → lv_has ls 7 [(0, .ref (ad 0)), (1, .int (iI y1)), (2, .int (iI y2)), (3, .int (iI y3)), (4, .int (iI y4)), (5, .int (iI y5))] → W p l e rX4_bestFirst s m args below meth c H locs 0 0 Qg (F0 m 48 ls [])) (y1 : Int) (y2 : Int) (y3 : Int) (y4 : Int) (y5 : Int) (mm : AR) (re : AR) (fa : AR) (H : Heap) (locs : List Loc) (ls : Array Slot), wX4_bestFirst_93 ss K48 Q y1 y2 y3 y4 y5 mm re fa → va_P D vwCl (wMd cy ad o ss mm im wa le ro re fa nu) H → va_D A (wMd cy ad o ss mm im wa le ro re fa nu) → va_S A s.heap H locs → lv_has ls 7 [(0, .ref (ad 0)), (1, .int (iI y1)), (2, .int (iI y2)), (3, .int (iI y3)), (4, .int (iI y4)), (5, .int (iI y5))] → W p l e rX4_bestFirst s m args below meth c H locs 0 0 Qg (F0 m 93 ls []) := by
    intro K48 hK48
    intro y1 y2 y3 y4 y5 mm re fa H locs ls h hP hD hS hl
    refine lv_iload_n F.1 F.2.1 dX4_bestFirst_93 rfl (lv_at hl 2 rfl) ?_
    obtain ⟨g14, h⟩ := h
    refine gv_if_ne (tgt := 105) F g14 dX4_bestFirst_94 (by decide) (fun c15 => ?_) (fun c15 => ?_)
    · have h := h.1 c15
      refine lv_aload_n F.1 F.2.1 dX4_bestFirst_105 rfl (lv_at hl 0 rfl) ?_
      refine gv_get F hin4 hK hP 0 rfl rfl 1 (by decide) k757 rfl dX4_bestFirst_106 ?_
      refine lv_iload_n F.1 F.2.1 dX4_bestFirst_109 rfl (lv_at hl 1 rfl) ?_
      refine gc_SR (As := [.ref (ad 2), .int (iI y1)]) F hK hA hP hS (cp_md_m hP) (c_X4_rightOf l D cy (ad 2) mm y1 _ h) (cwS 2 F.2.2.2.2 (gG_S k952 k953 k67 k954) rfl rfl rfl hd_X4_rightOf ⟨Nat.le_of_ble_eq_true rfl, Nat.le_of_ble_eq_true rfl⟩) dX4_bestFirst_110 rfl rfl hl.1 (Nat.le_of_ble_eq_true rfl) ⟨Nat.le_of_ble_eq_true rfl, Nat.le_of_ble_eq_true rfl⟩ (fun u16 H locs h hP hS => ?_)
      exact L113 _ hK48 y1 y2 y3 y4 y5 u16 mm re fa H locs ls h hP hD hS (lv_sub hl [0, 1, 2, 3, 4, 5] rfl)
    · have h := h.2 c15
      refine lv_aload_n F.1 F.2.1 dX4_bestFirst_97 rfl (lv_at hl 0 rfl) ?_
      refine lv_iload_n F.1 F.2.1 dX4_bestFirst_98 rfl (lv_at hl 1 rfl) ?_
      refine gc_VI (As := [.int (iI y1)]) (wn := fun u : AR × AR => wMd cy ad o ss u.1 im wa le ro re u.2 nu) F hK hA hP hD hS hP hD (fun u H1 _ h1 h2 => ⟨h1, h2⟩) (c_X4_doneIn l D cy ad o ss mm im wa le ro re fa nu y1 _ h) (cwV 1 F.2.2.2.2 (gG_V k980 k982 k51 k67 k983) rfl rfl rfl hd_X4_doneIn ⟨Nat.le_of_ble_eq_true rfl, Nat.le_of_ble_eq_true rfl⟩) rfl rfl dX4_bestFirst_99 rfl rfl hl.1 (Nat.le_of_ble_eq_true rfl) ⟨Nat.le_of_ble_eq_true rfl, Nat.le_of_ble_eq_true rfl⟩ (fun u19 u H locs h hP hD hS => ?_)
      obtain ⟨z17, z18⟩ := u
      try dsimp only at h hP hD
      refine lv_goto (tgt := 113) F.1 F.2.1 dX4_bestFirst_102 (by decide) ?_
      exact L113 _ hK48 y1 y2 y3 y4 y5 u19 z17 re z18 H locs ls h hP hD hS (lv_sub hl [0, 1, 2, 3, 4, 5] rfl)
  have L48 : ∀ (n : Nat) (y1 : Int) (y2 : Int) (y3 : Int) (y4 : Int) (y5 : Int) (mm : AR) (re : AR) (fa : AR) (H : Heap) (locs : List Loc) (ls : Array Slot), wX4_bestFirst_48 ss Q n y1 y2 y3 y4 y5 mm re fa → va_P D vwCl (wMd cy ad o ss mm im wa le ro re fa nu) H → va_D A (wMd cy ad o ss mm im wa le ro re fa nu) → va_S A s.heap H locs → lv_has ls 7 [(0, .ref (ad 0)), (1, .int (iI y1)), (2, .int (iI y2)), (3, .int (iI y3)), (4, .int (iI y4)), (5, .int (iI y5))] → W p l e rX4_bestFirst s m args below meth c H locs 0 0 Qg (F0 m 48 ls []) := by
    intro  n
    induction n with
    | zero => intro _ _ _ _ _ _ _ _ _ _ _ h; exact h.elim
    | succ n ih =>
      intro y1 y2 y3 y4 y5 mm re fa H locs ls h hP hD hS hl
      rw [wX4_bestFirst_48_s] at h
      refine lv_iload F.1 F.2.1 dX4_bestFirst_48 (lv_at hl 5 rfl) ?_
      refine gv_bipush F ⟨by decide, by decide⟩ dX4_bestFirst_50 ?_
      obtain ⟨g20, h⟩ := h
      refine gv_icmp_ge (tgt := 157) F g20 ⟨by decide, by decide⟩ dX4_bestFirst_52 (by decide) (fun c21 => ?_) (fun c21 => ?_)
      · have h := h.1 c21
        refine lv_iload_n F.1 F.2.1 dX4_bestFirst_157 rfl (lv_at hl 3 rfl) ?_
        exact ret y3 (mm, re, fa) H locs 158 ls h rfl hP hD hS dX4_bestFirst_158
      · have h := h.2 c21
        refine lv_aload_n F.1 F.2.1 dX4_bestFirst_55 rfl (lv_at hl 0 rfl) ?_
        refine gv_get F hin4 hK hP 0 rfl rfl 0 (by decide) k756 rfl dX4_bestFirst_56 ?_
        refine lv_aload_n F.1 F.2.1 dX4_bestFirst_59 rfl (lv_at hl 0 rfl) ?_
        refine gv_get F hin4 hK hP 0 rfl rfl 1 (by decide) k757 rfl dX4_bestFirst_60 ?_
        refine gc_SV (As := [.ref (ad 1), .ref (ad 2)]) (wn := fun u : AR => wMd cy ad o ss u im wa le ro re fa nu) F hK hA hP hD hS (cp_md_s_m hP) (cd_md_s_m hD) (fun u H1 hk h1 _ => cj_md_s_m hP hD u H1 hk h1) (c_X4_lays l D cy (ad 1) (ad 2) ss mm _ h) (cwS 2 F.2.2.2.2 (gG_S k842 k843 k67 k844) rfl rfl rfl hd_X4_lays ⟨Nat.le_of_ble_eq_true rfl, Nat.le_of_ble_eq_true rfl⟩) dX4_bestFirst_63 rfl rfl hl.1 (Nat.le_of_ble_eq_true rfl) ⟨Nat.le_of_ble_eq_true rfl, Nat.le_of_ble_eq_true rfl⟩ (fun z22 H locs h hP hD hS => ?_)
        try dsimp only at h hP hD
        refine lv_aload_n F.1 F.2.1 dX4_bestFirst_66 rfl (lv_at hl 0 rfl) ?_
        refine gv_get F hin4 hK hP 0 rfl rfl 1 (by decide) k757 rfl dX4_bestFirst_67 ?_
        refine lv_iload_n F.1 F.2.1 dX4_bestFirst_70 rfl (lv_at hl 1 rfl) ?_
        refine gv_iconst F dX4_bestFirst_71 ?_
        refine gc_SR (As := [.int (iI y1), .int (iI 2)]) F hK hA hP hS gPnil (c_X4_of l D cy y1 2 _ h) (cwS 2 F.2.2.2.2 (gG_S k862 k863 k67 k864) rfl rfl rfl hd_X4_of ⟨Nat.le_of_ble_eq_true rfl, Nat.le_of_ble_eq_true rfl⟩) dX4_bestFirst_72 rfl rfl hl.1 (Nat.le_of_ble_eq_true rfl) ⟨Nat.le_of_ble_eq_true rfl, Nat.le_of_ble_eq_true rfl⟩ (fun u23 H locs h hP hS => ?_)
        refine lv_iload F.1 F.2.1 dX4_bestFirst_75 (lv_at hl 5 rfl) ?_
        obtain ⟨g24, h⟩ := h
        obtain ⟨z25, ez25⟩ : ∃ z : AR, z = su z22 u23 y5 := ⟨_, rfl⟩
        have h := h z25 ez25
        refine gv_iast (n := 147) (g := z22) (ws' := wMd cy ad o ss z25 im wa le ro re fa nu) F hK hP hD hS 2 rfl rfl (by decide) g24 (by subst ez25; exact rfl) dX4_bestFirst_77 (fun H locs hP hD hS => ?_)
        refine lv_iload_n F.1 F.2.1 dX4_bestFirst_78 rfl (lv_at hl 2 rfl) ?_
        refine gv_iconst F dX4_bestFirst_79 ?_
        obtain ⟨g26, h⟩ := h
        refine gv_icmp_ne (tgt := 93) F g26 ⟨by decide, by decide⟩ dX4_bestFirst_80 (by decide) (fun c27 => ?_) (fun c27 => ?_)
        · have h := h.1 c27
          exact L93 _ ih y1 y2 y3 y4 y5 z25 re fa H locs ls h hP hD hS (lv_sub hl [0, 1, 2, 3, 4, 5] rfl)
        · have h := h.2 c27
          refine lv_aload_n F.1 F.2.1 dX4_bestFirst_83 rfl (lv_at hl 0 rfl) ?_
          refine lv_aload_n F.1 F.2.1 dX4_bestFirst_84 rfl (lv_at hl 0 rfl) ?_
          refine gv_get F hin4 hK hP 0 rfl rfl 1 (by decide) k757 rfl dX4_bestFirst_85 ?_
          refine gv_bipush F ⟨by decide, by decide⟩ dX4_bestFirst_88 ?_
          refine gc_VV (As := [.ref (ad 2), .int (iI 99)]) (wn := fun u : AR × AR => wMd cy ad o ss u.2 im wa le ro re u.1 nu) F hK hA hP hD hS (cp_md_fm hP) (cd_md_fm hD) (fun u H1 hk h1 _ => cj_md_fm hP hD u.1 u.2 H1 hk h1) (c_X4_minutesOn l D cy ad (ad 2) o fa z25 99 _ h) (cwV 2 F.2.2.2.2 (gG_V k873 k875 k43 k67 k876) rfl rfl rfl hd_X4_minutesOn ⟨Nat.le_of_ble_eq_true rfl, Nat.le_of_ble_eq_true rfl⟩) rfl rfl dX4_bestFirst_90 rfl rfl hl.1 (Nat.le_of_ble_eq_true rfl) ⟨Nat.le_of_ble_eq_true rfl, Nat.le_of_ble_eq_true rfl⟩ (fun u H locs h hP hD hS => ?_)
          obtain ⟨z28, z29⟩ := u
          try dsimp only at h hP hD
          exact L93 _ ih y1 y2 y3 y4 y5 z29 re z28 H locs ls h hP hD hS (lv_sub hl [0, 1, 2, 3, 4, 5] rfl)
  refine lv_aload_n F.1 F.2.1 dX4_bestFirst_0 rfl (lv_at hl 0 rfl) ?_
  refine lv_iload_n F.1 F.2.1 dX4_bestFirst_1 rfl (lv_at hl 1 rfl) ?_
  refine gc_VR (As := [.int (iI x1)]) F hK hA hP hS hP (c_X4_isGroup l D cy ad o ss mm im wa le ro re fa nu x1 _ h) (cwV 1 F.2.2.2.2 (gG_V k865 k867 k41 k67 k868) rfl rfl rfl hd_X4_isGroup ⟨Nat.le_of_ble_eq_true rfl, Nat.le_of_ble_eq_true rfl⟩) rfl rfl dX4_bestFirst_2 rfl rfl hl.1 (Nat.le_of_ble_eq_true rfl) ⟨Nat.le_of_ble_eq_true rfl, Nat.le_of_ble_eq_true rfl⟩ (fun u30 H locs h hP hS => ?_)
  obtain ⟨bu30, h⟩ := h
  refine gv_if_ne (tgt := 14) F (gRb bu30) dX4_bestFirst_5 (by decide) (fun c31 => ?_) (fun c31 => ?_)
  · have h := h.1 c31
    refine lv_iload_n F.1 F.2.1 dX4_bestFirst_14 rfl (lv_at hl 2 rfl) ?_
    refine gv_iconst F dX4_bestFirst_15 ?_
    refine gv_iconst F dX4_bestFirst_16 ?_
    refine gc_SR (As := [.int (iI x2), .int (iI 0), .int (iI 1)]) F hK hA hP hS gPnil (c_X4_isIn l D cy x2 0 1 _ h) (cwS 3 F.2.2.2.2 (gG_S k832 k833 k67 k834) rfl rfl rfl hd_X4_isIn ⟨Nat.le_of_ble_eq_true rfl, Nat.le_of_ble_eq_true rfl⟩) dX4_bestFirst_17 rfl rfl hl.1 (Nat.le_of_ble_eq_true rfl) ⟨Nat.le_of_ble_eq_true rfl, Nat.le_of_ble_eq_true rfl⟩ (fun u32 H locs h hP hS => ?_)
    obtain ⟨bu32, h⟩ := h
    refine gv_if_ne (tgt := 30) F (gRb bu32) dX4_bestFirst_20 (by decide) (fun c33 => ?_) (fun c33 => ?_)
    · have h := h.1 c33
      refine gv_bipush F ⟨by decide, by decide⟩ dX4_bestFirst_30 ?_
      refine lv_istore_n (lv' := [(3, .int (iI (-9))), (0, .ref (ad 0)), (1, .int (iI x1)), (2, .int (iI x2))]) F.1 F.2.1 dX4_bestFirst_32 rfl hl (by decide) rfl (fun ls hl => ?_)
      refine lv_iload_n F.1 F.2.1 dX4_bestFirst_33 rfl (lv_at hl 3 rfl) ?_
      obtain ⟨g34, h⟩ := h
      refine gv_if_ne (tgt := 42) F g34 dX4_bestFirst_34 (by decide) (fun c35 => ?_) (fun c35 => ?_)
      · have h := h.1 c35
        refine gv_iconst F dX4_bestFirst_42 ?_
        refine lv_istore (lv' := [(4, .int (iI (-1))), (3, .int (iI (-9))), (0, .ref (ad 0)), (1, .int (iI x1)), (2, .int (iI x2))]) F.1 F.2.1 dX4_bestFirst_43 hl (by decide) rfl (fun ls hl => ?_)
        refine gv_iconst F dX4_bestFirst_45 ?_
        refine lv_istore (lv' := [(5, .int (iI 0)), (4, .int (iI (-1))), (3, .int (iI (-9))), (0, .ref (ad 0)), (1, .int (iI x1)), (2, .int (iI x2))]) F.1 F.2.1 dX4_bestFirst_46 hl (by decide) rfl (fun ls hl => ?_)
        obtain ⟨n36, h⟩ := h
        exact L48 n36 x1 x2 (-9) (-1) 0 mm re fa H locs ls h hP hD hS (lv_sub hl [3, 4, 5, 2, 1, 0] rfl)
      · have h := h.2 c35
        refine gv_ldc (n := 1000000000) F k896 rfl dX4_bestFirst_37 ?_
        refine lv_goto (tgt := 43) F.1 F.2.1 dX4_bestFirst_39 (by decide) ?_
        refine lv_istore (lv' := [(4, .int (iI 1000000000)), (3, .int (iI (-9))), (0, .ref (ad 0)), (1, .int (iI x1)), (2, .int (iI x2))]) F.1 F.2.1 dX4_bestFirst_43 hl (by decide) rfl (fun ls hl => ?_)
        refine gv_iconst F dX4_bestFirst_45 ?_
        refine lv_istore (lv' := [(5, .int (iI 0)), (4, .int (iI 1000000000)), (3, .int (iI (-9))), (0, .ref (ad 0)), (1, .int (iI x1)), (2, .int (iI x2))]) F.1 F.2.1 dX4_bestFirst_46 hl (by decide) rfl (fun ls hl => ?_)
        obtain ⟨n37, h⟩ := h
        exact L48 n37 x1 x2 (-9) 1000000000 0 mm re fa H locs ls h hP hD hS (lv_sub hl [3, 4, 5, 2, 1, 0] rfl)
    · have h := h.2 c33
      refine lv_aload_n F.1 F.2.1 dX4_bestFirst_23 rfl (lv_at hl 0 rfl) ?_
      refine gv_bipush F ⟨by decide, by decide⟩ dX4_bestFirst_24 ?_
      refine gc_VI (As := [.int (iI (-2))]) (wn := fun u : AR => wMd cy ad o ss mm im wa le ro u fa nu) F hK hA hP hD hS hP hD (fun u H1 _ h1 h2 => ⟨h1, h2⟩) (c_X4_no l D cy ad o ss mm im wa le ro re fa nu (-2) _ h) (cwV 1 F.2.2.2.2 (gG_V k812 k814 k34 k67 k815) rfl rfl rfl hd_X4_no ⟨Nat.le_of_ble_eq_true rfl, Nat.le_of_ble_eq_true rfl⟩) rfl rfl dX4_bestFirst_26 rfl rfl hl.1 (Nat.le_of_ble_eq_true rfl) ⟨Nat.le_of_ble_eq_true rfl, Nat.le_of_ble_eq_true rfl⟩ (fun u39 z38 H locs h hP hD hS => ?_)
      try dsimp only at h hP hD
      exact ret u39 (mm, z38, fa) H locs 29 ls h rfl hP hD hS dX4_bestFirst_29
  · have h := h.2 c31
    refine lv_aload_n F.1 F.2.1 dX4_bestFirst_8 rfl (lv_at hl 0 rfl) ?_
    refine gv_iconst F dX4_bestFirst_9 ?_
    refine gc_VI (As := [.int (iI (-1))]) (wn := fun u : AR => wMd cy ad o ss mm im wa le ro u fa nu) F hK hA hP hD hS hP hD (fun u H1 _ h1 h2 => ⟨h1, h2⟩) (c_X4_no l D cy ad o ss mm im wa le ro re fa nu (-1) _ h) (cwV 1 F.2.2.2.2 (gG_V k812 k814 k34 k67 k815) rfl rfl rfl hd_X4_no ⟨Nat.le_of_ble_eq_true rfl, Nat.le_of_ble_eq_true rfl⟩) rfl rfl dX4_bestFirst_10 rfl rfl hl.1 (Nat.le_of_ble_eq_true rfl) ⟨Nat.le_of_ble_eq_true rfl, Nat.le_of_ble_eq_true rfl⟩ (fun u41 z40 H locs h hP hD hS => ?_)
    try dsimp only at h hP hD
    exact ret u41 (mm, z40, fa) H locs 13 ls h rfl hP hD hS dX4_bestFirst_13
abbrev rX4_apart : Room := { frames := 6, cells := 0, slots := 0, locals := 141 }
set_option maxHeartbeats 4000000 in
set_option maxRecDepth 20000 in
theorem c_X4_apart (l : Launch) (D : va_G) (cy : ClassId) (ad : Nat → Nat) (o : AR) (ss : AR) (mm : AR) (im : AR) (wa : AR) (le : AR) (ro : AR) (re : AR) (fa : AR) (nu : AR) (x1 : Int) (Q : Int → AR → AR → AR → AR → Prop) (h : wX4_apart o ss mm re fa x1 Q) : MetI l yX4_apart (wT yX4_apart cX4_apart 7 (some .int)) rX4_apart D cy [.ref (ad 0), .int (iI x1)] (wMd cy ad o ss mm im wa le ro re fa nu) (fun u : AR × AR × AR × AR => wMd cy ad u.1 ss u.2.1 im wa le ro u.2.2.1 u.2.2.2 nu) (fun r u => Q r u.1 u.2.1 u.2.2.1 u.2.2.2) := by
  refine gI_I (by decide) (Nat.le_of_ble_eq_true rfl) ?_
  intro p e s m args below meth c A Qg F hK hA ret H locs ls hl hP hD hS
  have F : CallFix p m c cX4_apart 7 s args gT RX4 := F
  have hl : lv_has ls 7 [(0, .ref (ad 0)), (1, .int (iI x1))] := hl
  have L99 : ∀ (K79 : Int → Int → Int → Int → Int → AR → AR → AR → AR → Prop) (hK79 : ∀ (y1 : Int) (y2 : Int) (y3 : Int) (y4 : Int) (y5 : Int) (o : AR) (mm : AR) (re : AR) (fa : AR) (H : Heap) (locs : List Loc) (ls : Array Slot), K79 y1 y2 y3 y4 y5 o mm re fa → va_P D vwCl (wMd cy ad o ss mm im wa le ro re fa nu) H → va_D A (wMd cy ad o ss mm im wa le ro re fa nu) → va_S A s.heap H locs → lv_has ls 7 [(0, .ref (ad 0)), (1, .int (iI y1)), (2, .int (iI y2)), (3, .int (iI y3)), (4, .int (iI y4)), (5, .int (iI y5))] → W p l e rX4_apart s m args below meth c H locs 0 0 Qg (F0 m 79 ls [])) (n : Nat) (y1 : Int) (y2 : Int) (y3 : Int) (y4 : Int) (y5 : Int) (y6 : Int) (o : AR) (mm : AR) (re : AR) (fa : AR) (H : Heap) (locs : List Loc) (ls : Array Slot), wX4_apart_99 ss K79 Q n y1 y2 y3 y4 y5 y6 o mm re fa → va_P D vwCl (wMd cy ad o ss mm im wa le ro re fa nu) H → va_D A (wMd cy ad o ss mm im wa le ro re fa nu) → va_S A s.heap H locs → lv_has ls 7 [(0, .ref (ad 0)), (1, .int (iI y1)), (2, .int (iI y2)), (3, .int (iI y3)), (4, .int (iI y4)), (5, .int (iI y5)), (6, .int (iI y6))] → W p l e rX4_apart s m args below meth c H locs 0 0 Qg (F0 m 99 ls []) := by
    intro K79 hK79 n
    induction n with
    | zero => intro _ _ _ _ _ _ _ _ _ _ _ _ _ h; exact h.elim
    | succ n ih =>
      intro y1 y2 y3 y4 y5 y6 o mm re fa H locs ls h hP hD hS hl
      rw [wX4_apart_99_s] at h
      refine lv_iload F.1 F.2.1 dX4_apart_99 (lv_at hl 6 rfl) ?_
      refine lv_aload_n F.1 F.2.1 dX4_apart_101 rfl (lv_at hl 0 rfl) ?_
      refine gv_get F hin4 hK hP 0 rfl rfl 0 (by decide) k756 rfl dX4_apart_102 ?_
      refine gv_iconst F dX4_apart_105 ?_
      refine gv_iald (n := 147) (g := ss) F hK hP 1 rfl rfl (by decide) ⟨by decide, by decide⟩ dX4_apart_106 ?_
      obtain ⟨g1, h⟩ := h
      obtain ⟨g2, h⟩ := h
      refine gv_icmp_ge (tgt := 146) F g1 g2 dX4_apart_107 (by decide) (fun c3 => ?_) (fun c3 => ?_)
      · have h := h.1 c3
        refine lv_aload_n F.1 F.2.1 dX4_apart_146 rfl (lv_at hl 0 rfl) ?_
        refine gv_bipush F ⟨by decide, by decide⟩ dX4_apart_147 ?_
        refine gc_VV (As := [.int (iI 30)]) (wn := fun u : AR × AR × AR => wMd cy ad u.1 ss u.2.1 im wa le ro re u.2.2 nu) F hK hA hP hD hS hP hD (fun u H1 _ h1 h2 => ⟨h1, h2⟩) (c_X4_findsFull l D cy ad o ss mm im wa le ro re fa nu 30 _ h) (cwV 1 F.2.2.2.2 (gG_V k1006 k1008 k53 k67 k1009) rfl rfl rfl hd_X4_findsFull ⟨Nat.le_of_ble_eq_true rfl, Nat.le_of_ble_eq_true rfl⟩) rfl rfl dX4_apart_149 rfl rfl hl.1 (Nat.le_of_ble_eq_true rfl) ⟨Nat.le_of_ble_eq_true rfl, Nat.le_of_ble_eq_true rfl⟩ (fun u H locs h hP hD hS => ?_)
        obtain ⟨z4, z5, z6⟩ := u
        try dsimp only at h hP hD
        refine lv_aload_n F.1 F.2.1 dX4_apart_152 rfl (lv_at hl 0 rfl) ?_
        refine gv_get F hin4 hK hP 0 rfl rfl 13 (by decide) k769 rfl dX4_apart_153 ?_
        refine lv_iload F.1 F.2.1 dX4_apart_156 (lv_at hl 4 rfl) ?_
        obtain ⟨g7, h⟩ := h
        obtain ⟨g8, h⟩ := h
        refine gv_icmp_lt (tgt := 164) F g7 g8 dX4_apart_158 (by decide) (fun c9 => ?_) (fun c9 => ?_)
        · have h := h.1 c9
          refine lv_iload F.1 F.2.1 dX4_apart_164 (lv_at hl 5 rfl) ?_
          refine lv_istore_n (lv' := [(3, .int (iI y5)), (0, .ref (ad 0)), (1, .int (iI y1)), (2, .int (iI y2)), (4, .int (iI y4)), (5, .int (iI y5)), (6, .int (iI y6))]) F.1 F.2.1 dX4_apart_166 rfl hl (by decide) rfl (fun ls hl => ?_)
          refine lv_aload_n F.1 F.2.1 dX4_apart_167 rfl (lv_at hl 1 rfl) ?_
          refine gv_get F hin4 hK hP 0 rfl rfl 13 (by decide) k769 rfl dX4_apart_168 ?_
          refine gv_name (fun v10 ev10 => ?_)
          have h := h v10 ev10
          refine lv_istore (lv' := [(4, .int (iI v10)), (3, .int (iI y5)), (0, .ref (ad 0)), (1, .int (iI y1)), (2, .int (iI y2)), (5, .int (iI y5)), (6, .int (iI y6))]) F.1 F.2.1 dX4_apart_171 hl (by decide) rfl (fun ls hl => ?_)
          obtain ⟨v11, ev11⟩ : ∃ z : Int, z = y5 + 1 := ⟨_, rfl⟩
          have h := h v11 ev11
          refine gv_iinc (lv' := [(5, .int (iI v11)), (4, .int (iI v10)), (3, .int (iI y5)), (0, .ref (ad 0)), (1, .int (iI y1)), (2, .int (iI y2)), (6, .int (iI y6))]) F dX4_apart_173 hl (k := 5) rfl ev11 (by decide) rfl (fun ls hl => ?_)
          refine lv_goto (tgt := 79) F.1 F.2.1 dX4_apart_176 (by decide) ?_
          exact hK79 y1 y2 y5 v10 v11 z4 z5 re z6 H locs ls h hP hD hS (lv_sub hl [3, 4, 5, 2, 1, 0] rfl)
        · have h := h.2 c9
          refine lv_goto (tgt := 173) F.1 F.2.1 dX4_apart_161 (by decide) ?_
          obtain ⟨v12, ev12⟩ : ∃ z : Int, z = y5 + 1 := ⟨_, rfl⟩
          have h := h v12 ev12
          refine gv_iinc (lv' := [(5, .int (iI v12)), (0, .ref (ad 0)), (1, .int (iI y1)), (2, .int (iI y2)), (3, .int (iI y3)), (4, .int (iI y4)), (6, .int (iI y6))]) F dX4_apart_173 hl (k := 5) rfl ev12 (by decide) rfl (fun ls hl => ?_)
          refine lv_goto (tgt := 79) F.1 F.2.1 dX4_apart_176 (by decide) ?_
          exact hK79 y1 y2 y3 y4 v12 z4 z5 re z6 H locs ls h hP hD hS (lv_sub hl [1, 2, 3, 4, 5, 0] rfl)
      · have h := h.2 c3
        refine lv_aload_n F.1 F.2.1 dX4_apart_110 rfl (lv_at hl 0 rfl) ?_
        refine gv_get F hin4 hK hP 0 rfl rfl 1 (by decide) k757 rfl dX4_apart_111 ?_
        refine lv_iload F.1 F.2.1 dX4_apart_114 (lv_at hl 6 rfl) ?_
        refine gv_iconst F dX4_apart_116 ?_
        refine gc_SR (As := [.int (iI y6), .int (iI 2)]) F hK hA hP hS gPnil (c_X4_of l D cy y6 2 _ h) (cwS 2 F.2.2.2.2 (gG_S k862 k863 k67 k864) rfl rfl rfl hd_X4_of ⟨Nat.le_of_ble_eq_true rfl, Nat.le_of_ble_eq_true rfl⟩) dX4_apart_117 rfl rfl hl.1 (Nat.le_of_ble_eq_true rfl) ⟨Nat.le_of_ble_eq_true rfl, Nat.le_of_ble_eq_true rfl⟩ (fun u13 H locs h hP hS => ?_)
        refine lv_iload F.1 F.2.1 dX4_apart_120 (lv_at hl 5 rfl) ?_
        refine gv_iconst F dX4_apart_122 ?_
        refine lv_aload_n F.1 F.2.1 dX4_apart_123 rfl (lv_at hl 0 rfl) ?_
        refine gv_get F hin4 hK hP 0 rfl rfl 0 (by decide) k756 rfl dX4_apart_124 ?_
        refine gv_iconst F dX4_apart_127 ?_
        refine gv_iald (n := 147) (g := ss) F hK hP 1 rfl rfl (by decide) ⟨by decide, by decide⟩ dX4_apart_128 ?_
        refine gv_iconst F dX4_apart_129 ?_
        refine gv_isub F dX4_apart_130 ?_
        refine lv_iload F.1 F.2.1 dX4_apart_131 (lv_at hl 6 rfl) ?_
        refine gv_isub F dX4_apart_133 ?_
        refine gv_imul F dX4_apart_134 ?_
        obtain ⟨g14, h⟩ := h
        obtain ⟨g15, h⟩ := h
        refine gv_ishr F g14 g15 dX4_apart_135 ?_
        refine gv_bipush F ⟨by decide, by decide⟩ dX4_apart_136 ?_
        refine gv_iand F 3 (by decide) (by decide) dX4_apart_138 ?_
        obtain ⟨g16, h⟩ := h
        obtain ⟨z17, ez17⟩ : ∃ z : AR, z = su mm u13 ((y5 / 2 ^ ((3 * (((ss 1) - 1) - y6)) : Int).toNat) % (7 + 1)) := ⟨_, rfl⟩
        have h := h z17 ez17
        refine gv_iast (n := 147) (g := mm) (ws' := wMd cy ad o ss z17 im wa le ro re fa nu) F hK hP hD hS 2 rfl rfl (by decide) g16 (by subst ez17; exact rfl) dX4_apart_139 (fun H locs hP hD hS => ?_)
        obtain ⟨v18, ev18⟩ : ∃ z : Int, z = y6 + 1 := ⟨_, rfl⟩
        have h := h v18 ev18
        refine gv_iinc (lv' := [(6, .int (iI v18)), (0, .ref (ad 0)), (1, .int (iI y1)), (2, .int (iI y2)), (3, .int (iI y3)), (4, .int (iI y4)), (5, .int (iI y5))]) F dX4_apart_140 hl (k := 6) rfl ev18 (by decide) rfl (fun ls hl => ?_)
        refine lv_goto (tgt := 99) F.1 F.2.1 dX4_apart_143 (by decide) ?_
        exact ih y1 y2 y3 y4 y5 v18 o z17 re fa H locs ls h hP hD hS (lv_sub hl [1, 2, 3, 4, 5, 6, 0] rfl)
  have L79 : ∀ (n : Nat) (y1 : Int) (y2 : Int) (y3 : Int) (y4 : Int) (y5 : Int) (o : AR) (mm : AR) (re : AR) (fa : AR) (H : Heap) (locs : List Loc) (ls : Array Slot), wX4_apart_79 ss Q n y1 y2 y3 y4 y5 o mm re fa → va_P D vwCl (wMd cy ad o ss mm im wa le ro re fa nu) H → va_D A (wMd cy ad o ss mm im wa le ro re fa nu) → va_S A s.heap H locs → lv_has ls 7 [(0, .ref (ad 0)), (1, .int (iI y1)), (2, .int (iI y2)), (3, .int (iI y3)), (4, .int (iI y4)), (5, .int (iI y5))] → W p l e rX4_apart s m args below meth c H locs 0 0 Qg (F0 m 79 ls []) := by
    intro  n
    induction n with
    | zero => intro _ _ _ _ _ _ _ _ _ _ _ _ h; exact h.elim
    | succ n ih =>
      intro y1 y2 y3 y4 y5 o mm re fa H locs ls h hP hD hS hl
      rw [wX4_apart_79_s] at h
      refine lv_iload F.1 F.2.1 dX4_apart_79 (lv_at hl 5 rfl) ?_
      refine lv_iload_n F.1 F.2.1 dX4_apart_81 rfl (lv_at hl 2 rfl) ?_
      obtain ⟨g19, h⟩ := h
      obtain ⟨g20, h⟩ := h
      refine gv_icmp_ge (tgt := 179) F g19 g20 dX4_apart_82 (by decide) (fun c21 => ?_) (fun c21 => ?_)
      · have h := h.1 c21
        refine lv_iload_n F.1 F.2.1 dX4_apart_179 rfl (lv_at hl 1 rfl) ?_
        obtain ⟨g22, h⟩ := h
        refine gv_if_ge (tgt := 188) F g22 dX4_apart_180 (by decide) (fun c23 => ?_) (fun c23 => ?_)
        · have h := h.1 c23
          refine lv_iload_n F.1 F.2.1 dX4_apart_188 rfl (lv_at hl 3 rfl) ?_
          refine gv_iconst F dX4_apart_189 ?_
          refine lv_aload_n F.1 F.2.1 dX4_apart_190 rfl (lv_at hl 0 rfl) ?_
          refine gv_get F hin4 hK hP 0 rfl rfl 0 (by decide) k756 rfl dX4_apart_191 ?_
          refine gv_iconst F dX4_apart_194 ?_
          refine gv_iald (n := 147) (g := ss) F hK hP 1 rfl rfl (by decide) ⟨by decide, by decide⟩ dX4_apart_195 ?_
          refine gv_iconst F dX4_apart_196 ?_
          refine gv_isub F dX4_apart_197 ?_
          refine lv_iload_n F.1 F.2.1 dX4_apart_198 rfl (lv_at hl 1 rfl) ?_
          refine gv_isub F dX4_apart_199 ?_
          refine gv_imul F dX4_apart_200 ?_
          obtain ⟨g24, h⟩ := h
          obtain ⟨g25, h⟩ := h
          refine gv_ishr F g24 g25 dX4_apart_201 ?_
          refine gv_bipush F ⟨by decide, by decide⟩ dX4_apart_202 ?_
          refine gv_iand F 3 (by decide) (by decide) dX4_apart_204 ?_
          exact ret ((y3 / 2 ^ ((3 * (((ss 1) - 1) - y1)) : Int).toNat) % (7 + 1)) (o, mm, re, fa) H locs 205 ls h rfl hP hD hS dX4_apart_205
        · have h := h.2 c23
          refine lv_iload F.1 F.2.1 dX4_apart_183 (lv_at hl 4 rfl) ?_
          refine lv_goto (tgt := 205) F.1 F.2.1 dX4_apart_185 (by decide) ?_
          exact ret y4 (o, mm, re, fa) H locs 205 ls h rfl hP hD hS dX4_apart_205
      · have h := h.2 c21
        refine lv_aload_n F.1 F.2.1 dX4_apart_85 rfl (lv_at hl 0 rfl) ?_
        refine gv_get F hin4 hK hP 0 rfl rfl 0 (by decide) k756 rfl dX4_apart_86 ?_
        refine lv_aload_n F.1 F.2.1 dX4_apart_89 rfl (lv_at hl 0 rfl) ?_
        refine gv_get F hin4 hK hP 0 rfl rfl 1 (by decide) k757 rfl dX4_apart_90 ?_
        refine gc_SV (As := [.ref (ad 1), .ref (ad 2)]) (wn := fun u : AR => wMd cy ad o ss u im wa le ro re fa nu) F hK hA hP hD hS (cp_md_s_m hP) (cd_md_s_m hD) (fun u H1 hk h1 _ => cj_md_s_m hP hD u H1 hk h1) (c_X4_lays l D cy (ad 1) (ad 2) ss mm _ h) (cwS 2 F.2.2.2.2 (gG_S k842 k843 k67 k844) rfl rfl rfl hd_X4_lays ⟨Nat.le_of_ble_eq_true rfl, Nat.le_of_ble_eq_true rfl⟩) dX4_apart_93 rfl rfl hl.1 (Nat.le_of_ble_eq_true rfl) ⟨Nat.le_of_ble_eq_true rfl, Nat.le_of_ble_eq_true rfl⟩ (fun z26 H locs h hP hD hS => ?_)
        try dsimp only at h hP hD
        refine gv_iconst F dX4_apart_96 ?_
        refine lv_istore (lv' := [(6, .int (iI 0)), (0, .ref (ad 0)), (1, .int (iI y1)), (2, .int (iI y2)), (3, .int (iI y3)), (4, .int (iI y4)), (5, .int (iI y5))]) F.1 F.2.1 dX4_apart_97 hl (by decide) rfl (fun ls hl => ?_)
        obtain ⟨n27, h⟩ := h
        exact L99 _ ih n27 y1 y2 y3 y4 y5 0 o z26 re fa H locs ls h hP hD hS (lv_sub hl [1, 2, 3, 4, 5, 6, 0] rfl)
  have L49 : ∀ (n : Nat) (y1 : Int) (y2 : Int) (y3 : Int) (o : AR) (mm : AR) (re : AR) (fa : AR) (H : Heap) (locs : List Loc) (ls : Array Slot), wX4_apart_49 ss Q n y1 y2 y3 o mm re fa → va_P D vwCl (wMd cy ad o ss mm im wa le ro re fa nu) H → va_D A (wMd cy ad o ss mm im wa le ro re fa nu) → va_S A s.heap H locs → lv_has ls 7 [(0, .ref (ad 0)), (1, .int (iI y1)), (2, .int (iI y2)), (3, .int (iI y3))] → W p l e rX4_apart s m args below meth c H locs 0 0 Qg (F0 m 49 ls []) := by
    intro  n
    induction n with
    | zero => intro _ _ _ _ _ _ _ _ _ _ h; exact h.elim
    | succ n ih =>
      intro y1 y2 y3 o mm re fa H locs ls h hP hD hS hl
      rw [wX4_apart_49_s] at h
      refine lv_iload_n F.1 F.2.1 dX4_apart_49 rfl (lv_at hl 3 rfl) ?_
      refine lv_aload_n F.1 F.2.1 dX4_apart_50 rfl (lv_at hl 0 rfl) ?_
      refine gv_get F hin4 hK hP 0 rfl rfl 0 (by decide) k756 rfl dX4_apart_51 ?_
      refine gv_iconst F dX4_apart_54 ?_
      refine gv_iald (n := 147) (g := ss) F hK hP 1 rfl rfl (by decide) ⟨by decide, by decide⟩ dX4_apart_55 ?_
      obtain ⟨g28, h⟩ := h
      obtain ⟨g29, h⟩ := h
      refine gv_icmp_ge (tgt := 70) F g28 g29 dX4_apart_56 (by decide) (fun c30 => ?_) (fun c30 => ?_)
      · have h := h.1 c30
        refine gv_iconst F dX4_apart_70 ?_
        refine lv_istore_n (lv' := [(3, .int (iI 0)), (0, .ref (ad 0)), (1, .int (iI y1)), (2, .int (iI y2))]) F.1 F.2.1 dX4_apart_71 rfl hl (by decide) rfl (fun ls hl => ?_)
        refine gv_ldc (n := 1000000000) F k896 rfl dX4_apart_72 ?_
        refine lv_istore (lv' := [(4, .int (iI 1000000000)), (3, .int (iI 0)), (0, .ref (ad 0)), (1, .int (iI y1)), (2, .int (iI y2))]) F.1 F.2.1 dX4_apart_74 hl (by decide) rfl (fun ls hl => ?_)
        refine gv_iconst F dX4_apart_76 ?_
        refine lv_istore (lv' := [(5, .int (iI 0)), (4, .int (iI 1000000000)), (3, .int (iI 0)), (0, .ref (ad 0)), (1, .int (iI y1)), (2, .int (iI y2))]) F.1 F.2.1 dX4_apart_77 hl (by decide) rfl (fun ls hl => ?_)
        obtain ⟨n31, h⟩ := h
        exact L79 n31 y1 y2 0 1000000000 0 o mm re fa H locs ls h hP hD hS (lv_sub hl [3, 4, 5, 2, 1, 0] rfl)
      · have h := h.2 c30
        refine lv_iload_n F.1 F.2.1 dX4_apart_59 rfl (lv_at hl 2 rfl) ?_
        refine gv_bipush F ⟨by decide, by decide⟩ dX4_apart_60 ?_
        refine gv_imul F dX4_apart_62 ?_
        refine gv_name (fun v32 ev32 => ?_)
        have h := h v32 ev32
        refine lv_istore_n (lv' := [(2, .int (iI v32)), (0, .ref (ad 0)), (1, .int (iI y1)), (3, .int (iI y3))]) F.1 F.2.1 dX4_apart_63 rfl hl (by decide) rfl (fun ls hl => ?_)
        obtain ⟨v33, ev33⟩ : ∃ z : Int, z = y3 + 1 := ⟨_, rfl⟩
        have h := h v33 ev33
        refine gv_iinc (lv' := [(3, .int (iI v33)), (2, .int (iI v32)), (0, .ref (ad 0)), (1, .int (iI y1))]) F dX4_apart_64 hl (k := 3) rfl ev33 (by decide) rfl (fun ls hl => ?_)
        refine lv_goto (tgt := 49) F.1 F.2.1 dX4_apart_67 (by decide) ?_
        exact ih y1 v32 v33 o mm re fa H locs ls h hP hD hS (lv_sub hl [2, 3, 1, 0] rfl)
  refine lv_iload_n F.1 F.2.1 dX4_apart_0 rfl (lv_at hl 1 rfl) ?_
  refine gv_iconst F dX4_apart_1 ?_
  obtain ⟨g34, h⟩ := h
  refine gv_icmp_ge (tgt := 12) F g34 ⟨by decide, by decide⟩ dX4_apart_2 (by decide) (fun c35 => ?_) (fun c35 => ?_)
  · have h := h.1 c35
    refine lv_iload_n F.1 F.2.1 dX4_apart_12 rfl (lv_at hl 1 rfl) ?_
    refine lv_aload_n F.1 F.2.1 dX4_apart_13 rfl (lv_at hl 0 rfl) ?_
    refine gv_get F hin4 hK hP 0 rfl rfl 0 (by decide) k756 rfl dX4_apart_14 ?_
    refine gv_iconst F dX4_apart_17 ?_
    refine gv_iald (n := 147) (g := ss) F hK hP 1 rfl rfl (by decide) ⟨by decide, by decide⟩ dX4_apart_18 ?_
    obtain ⟨g36, h⟩ := h
    refine gv_icmp_lt (tgt := 28) F g34 g36 dX4_apart_19 (by decide) (fun c37 => ?_) (fun c37 => ?_)
    · have h := h.1 c37
      refine lv_aload_n F.1 F.2.1 dX4_apart_28 rfl (lv_at hl 0 rfl) ?_
      refine gv_get F hin4 hK hP 0 rfl rfl 0 (by decide) k756 rfl dX4_apart_29 ?_
      refine gv_iconst F dX4_apart_32 ?_
      refine gv_iald (n := 147) (g := ss) F hK hP 1 rfl rfl (by decide) ⟨by decide, by decide⟩ dX4_apart_33 ?_
      refine gv_iconst F dX4_apart_34 ?_
      refine gv_icmp_le (tgt := 45) F g36 ⟨by decide, by decide⟩ dX4_apart_35 (by decide) (fun c38 => ?_) (fun c38 => ?_)
      · have h := h.1 c38
        refine gv_iconst F dX4_apart_45 ?_
        refine lv_istore_n (lv' := [(2, .int (iI 1)), (0, .ref (ad 0)), (1, .int (iI x1))]) F.1 F.2.1 dX4_apart_46 rfl hl (by decide) rfl (fun ls hl => ?_)
        refine gv_iconst F dX4_apart_47 ?_
        refine lv_istore_n (lv' := [(3, .int (iI 0)), (2, .int (iI 1)), (0, .ref (ad 0)), (1, .int (iI x1))]) F.1 F.2.1 dX4_apart_48 rfl hl (by decide) rfl (fun ls hl => ?_)
        obtain ⟨n39, h⟩ := h
        exact L49 n39 x1 1 0 o mm re fa H locs ls h hP hD hS (lv_sub hl [2, 3, 1, 0] rfl)
      · have h := h.2 c38
        refine lv_aload_n F.1 F.2.1 dX4_apart_38 rfl (lv_at hl 0 rfl) ?_
        refine gv_bipush F ⟨by decide, by decide⟩ dX4_apart_39 ?_
        refine gc_VI (As := [.int (iI (-3))]) (wn := fun u : AR => wMd cy ad o ss mm im wa le ro u fa nu) F hK hA hP hD hS hP hD (fun u H1 _ h1 h2 => ⟨h1, h2⟩) (c_X4_no l D cy ad o ss mm im wa le ro re fa nu (-3) _ h) (cwV 1 F.2.2.2.2 (gG_V k812 k814 k34 k67 k815) rfl rfl rfl hd_X4_no ⟨Nat.le_of_ble_eq_true rfl, Nat.le_of_ble_eq_true rfl⟩) rfl rfl dX4_apart_41 rfl rfl hl.1 (Nat.le_of_ble_eq_true rfl) ⟨Nat.le_of_ble_eq_true rfl, Nat.le_of_ble_eq_true rfl⟩ (fun u41 z40 H locs h hP hD hS => ?_)
        try dsimp only at h hP hD
        exact ret u41 (o, mm, z40, fa) H locs 44 ls h rfl hP hD hS dX4_apart_44
    · have h := h.2 c37
      refine lv_aload_n F.1 F.2.1 dX4_apart_22 rfl (lv_at hl 0 rfl) ?_
      refine gv_iconst F dX4_apart_23 ?_
      refine gc_VI (As := [.int (iI (-1))]) (wn := fun u : AR => wMd cy ad o ss mm im wa le ro u fa nu) F hK hA hP hD hS hP hD (fun u H1 _ h1 h2 => ⟨h1, h2⟩) (c_X4_no l D cy ad o ss mm im wa le ro re fa nu (-1) _ h) (cwV 1 F.2.2.2.2 (gG_V k812 k814 k34 k67 k815) rfl rfl rfl hd_X4_no ⟨Nat.le_of_ble_eq_true rfl, Nat.le_of_ble_eq_true rfl⟩) rfl rfl dX4_apart_24 rfl rfl hl.1 (Nat.le_of_ble_eq_true rfl) ⟨Nat.le_of_ble_eq_true rfl, Nat.le_of_ble_eq_true rfl⟩ (fun u43 z42 H locs h hP hD hS => ?_)
      try dsimp only at h hP hD
      exact ret u43 (o, mm, z42, fa) H locs 27 ls h rfl hP hD hS dX4_apart_27
  · have h := h.2 c35
    refine lv_aload_n F.1 F.2.1 dX4_apart_5 rfl (lv_at hl 0 rfl) ?_
    refine gv_bipush F ⟨by decide, by decide⟩ dX4_apart_6 ?_
    refine gc_VI (As := [.int (iI (-4))]) (wn := fun u : AR => wMd cy ad o ss mm im wa le ro u fa nu) F hK hA hP hD hS hP hD (fun u H1 _ h1 h2 => ⟨h1, h2⟩) (c_X4_no l D cy ad o ss mm im wa le ro re fa nu (-4) _ h) (cwV 1 F.2.2.2.2 (gG_V k812 k814 k34 k67 k815) rfl rfl rfl hd_X4_no ⟨Nat.le_of_ble_eq_true rfl, Nat.le_of_ble_eq_true rfl⟩) rfl rfl dX4_apart_8 rfl rfl hl.1 (Nat.le_of_ble_eq_true rfl) ⟨Nat.le_of_ble_eq_true rfl, Nat.le_of_ble_eq_true rfl⟩ (fun u45 z44 H locs h hP hD hS => ?_)
    try dsimp only at h hP hD
    exact ret u45 (o, mm, z44, fa) H locs 11 ls h rfl hP hD hS dX4_apart_11
abbrev rX4_leaves : Room := { frames := 1, cells := 0, slots := 0, locals := 22 }
set_option maxHeartbeats 4000000 in
set_option maxRecDepth 20000 in
theorem c_X4_leaves (l : Launch) (D : va_G) (cy : ClassId) (ad : Nat → Nat) (o : AR) (ss : AR) (mm : AR) (im : AR) (wa : AR) (le : AR) (ro : AR) (re : AR) (fa : AR) (nu : AR) (x1 : Int) (Q : AR → Prop) (h : wX4_leaves ss mm x1 Q) : MetV l yX4_leaves (wT yX4_leaves cX4_leaves 3 none) rX4_leaves D cy [.ref (ad 0), .int (iI x1)] (wMd cy ad o ss mm im wa le ro re fa nu) (fun u : AR => wMd cy ad o ss u im wa le ro re fa nu) (fun u => Q u) := by
  refine gI_V (by decide) (Nat.le_of_ble_eq_true rfl) ?_
  intro p e s m args below meth c A Qg F hK hA ret H locs ls hl hP hD hS
  have F : CallFix p m c cX4_leaves 3 s args gT RX4 := F
  have hl : lv_has ls 3 [(0, .ref (ad 0)), (1, .int (iI x1))] := hl
  have L13 : ∀ (n : Nat) (y1 : Int) (y2 : Int) (mm : AR) (H : Heap) (locs : List Loc) (ls : Array Slot), wX4_leaves_13 ss Q n y1 y2 mm → va_P D vwCl (wMd cy ad o ss mm im wa le ro re fa nu) H → va_D A (wMd cy ad o ss mm im wa le ro re fa nu) → va_S A s.heap H locs → lv_has ls 3 [(0, .ref (ad 0)), (1, .int (iI y1)), (2, .int (iI y2))] → W p l e rX4_leaves s m args below meth c H locs 0 0 Qg (F0 m 13 ls []) := by
    intro  n
    induction n with
    | zero => intro _ _ _ _ _ _ h; exact h.elim
    | succ n ih =>
      intro y1 y2 mm H locs ls h hP hD hS hl
      rw [wX4_leaves_13_s] at h
      refine lv_iload_n F.1 F.2.1 dX4_leaves_13 rfl (lv_at hl 2 rfl) ?_
      refine lv_aload_n F.1 F.2.1 dX4_leaves_14 rfl (lv_at hl 0 rfl) ?_
      refine gv_get F hin4 hK hP 0 rfl rfl 0 (by decide) k756 rfl dX4_leaves_15 ?_
      refine gv_iconst F dX4_leaves_18 ?_
      refine gv_iald (n := 147) (g := ss) F hK hP 1 rfl rfl (by decide) ⟨by decide, by decide⟩ dX4_leaves_19 ?_
      obtain ⟨g1, h⟩ := h
      obtain ⟨g2, h⟩ := h
      refine gv_icmp_ge (tgt := 49) F g1 g2 dX4_leaves_20 (by decide) (fun c3 => ?_) (fun c3 => ?_)
      · have h := h.1 c3
        exact ret mm H locs 49 ls h hP hD hS dX4_leaves_49
      · have h := h.2 c3
        refine lv_aload_n F.1 F.2.1 dX4_leaves_23 rfl (lv_at hl 0 rfl) ?_
        refine gv_get F hin4 hK hP 0 rfl rfl 1 (by decide) k757 rfl dX4_leaves_24 ?_
        refine lv_iload_n F.1 F.2.1 dX4_leaves_27 rfl (lv_at hl 2 rfl) ?_
        refine lv_iload_n F.1 F.2.1 dX4_leaves_28 rfl (lv_at hl 1 rfl) ?_
        refine gc_SR (As := [.int (iI y2), .int (iI y1)]) F hK hA hP hS gPnil (c_X4_sheetOf l D cy y2 y1 _ h) (cwS 2 F.2.2.2.2 (gG_S k859 k860 k67 k861) rfl rfl rfl hd_X4_sheetOf ⟨Nat.le_of_ble_eq_true rfl, Nat.le_of_ble_eq_true rfl⟩) dX4_leaves_29 rfl rfl hl.1 (Nat.le_of_ble_eq_true rfl) ⟨Nat.le_of_ble_eq_true rfl, Nat.le_of_ble_eq_true rfl⟩ (fun u4 H locs h hP hS => ?_)
        refine lv_aload_n F.1 F.2.1 dX4_leaves_32 rfl (lv_at hl 0 rfl) ?_
        refine gv_get F hin4 hK hP 0 rfl rfl 0 (by decide) k756 rfl dX4_leaves_33 ?_
        refine lv_iload_n F.1 F.2.1 dX4_leaves_36 rfl (lv_at hl 1 rfl) ?_
        refine gv_iconst F dX4_leaves_37 ?_
        refine gc_SR (As := [.int (iI y1), .int (iI 3)]) F hK hA hP hS gPnil (c_X4_ask l D cy y1 3 _ h) (cwS 2 F.2.2.2.2 (gG_S k856 k857 k67 k858) rfl rfl rfl hd_X4_ask ⟨Nat.le_of_ble_eq_true rfl, Nat.le_of_ble_eq_true rfl⟩) dX4_leaves_38 rfl rfl hl.1 (Nat.le_of_ble_eq_true rfl) ⟨Nat.le_of_ble_eq_true rfl, Nat.le_of_ble_eq_true rfl⟩ (fun u5 H locs h hP hS => ?_)
        obtain ⟨g6, h⟩ := h
        refine gv_iald (n := 147) (g := ss) F hK hP 1 rfl rfl (by decide) g6 dX4_leaves_41 ?_
        obtain ⟨g7, h⟩ := h
        obtain ⟨z8, ez8⟩ : ∃ z : AR, z = su mm u4 (ss u5) := ⟨_, rfl⟩
        have h := h z8 ez8
        refine gv_iast (n := 147) (g := mm) (ws' := wMd cy ad o ss z8 im wa le ro re fa nu) F hK hP hD hS 2 rfl rfl (by decide) g7 (by subst ez8; exact rfl) dX4_leaves_42 (fun H locs hP hD hS => ?_)
        obtain ⟨v9, ev9⟩ : ∃ z : Int, z = y2 + 1 := ⟨_, rfl⟩
        have h := h v9 ev9
        refine gv_iinc (lv' := [(2, .int (iI v9)), (0, .ref (ad 0)), (1, .int (iI y1))]) F dX4_leaves_43 hl (k := 2) rfl ev9 (by decide) rfl (fun ls hl => ?_)
        refine lv_goto (tgt := 13) F.1 F.2.1 dX4_leaves_46 (by decide) ?_
        exact ih y1 v9 z8 H locs ls h hP hD hS (lv_sub hl [1, 2, 0] rfl)
  refine lv_aload_n F.1 F.2.1 dX4_leaves_0 rfl (lv_at hl 0 rfl) ?_
  refine gv_get F hin4 hK hP 0 rfl rfl 0 (by decide) k756 rfl dX4_leaves_1 ?_
  refine lv_aload_n F.1 F.2.1 dX4_leaves_4 rfl (lv_at hl 0 rfl) ?_
  refine gv_get F hin4 hK hP 0 rfl rfl 1 (by decide) k757 rfl dX4_leaves_5 ?_
  refine gc_SV (As := [.ref (ad 1), .ref (ad 2)]) (wn := fun u : AR => wMd cy ad o ss u im wa le ro re fa nu) F hK hA hP hD hS (cp_md_s_m hP) (cd_md_s_m hD) (fun u H1 hk h1 _ => cj_md_s_m hP hD u H1 hk h1) (c_X4_lays l D cy (ad 1) (ad 2) ss mm _ h) (cwS 2 F.2.2.2.2 (gG_S k842 k843 k67 k844) rfl rfl rfl hd_X4_lays ⟨Nat.le_of_ble_eq_true rfl, Nat.le_of_ble_eq_true rfl⟩) dX4_leaves_8 rfl rfl hl.1 (Nat.le_of_ble_eq_true rfl) ⟨Nat.le_of_ble_eq_true rfl, Nat.le_of_ble_eq_true rfl⟩ (fun z10 H locs h hP hD hS => ?_)
  try dsimp only at h hP hD
  refine gv_iconst F dX4_leaves_11 ?_
  refine lv_istore_n (lv' := [(2, .int (iI 0)), (0, .ref (ad 0)), (1, .int (iI x1))]) F.1 F.2.1 dX4_leaves_12 rfl hl (by decide) rfl (fun ls hl => ?_)
  obtain ⟨n11, h⟩ := h
  exact L13 n11 x1 0 z10 H locs ls h hP hD hS (lv_sub hl [1, 2, 0] rfl)
abbrev rX4_leave : Room := { frames := 6, cells := 0, slots := 0, locals := 139 }
set_option maxHeartbeats 4000000 in
set_option maxRecDepth 20000 in
theorem c_X4_leave (l : Launch) (D : va_G) (cy : ClassId) (ad : Nat → Nat) (o : AR) (ss : AR) (mm : AR) (im : AR) (wa : AR) (le : AR) (ro : AR) (re : AR) (fa : AR) (nu : AR) (Q : Int → AR → AR → Prop) (h : wX4_leave ss mm fa Q) : MetI l yX4_leave (wT yX4_leave cX4_leave 5 (some .int)) rX4_leave D cy [.ref (ad 0)] (wMd cy ad o ss mm im wa le ro re fa nu) (fun u : AR × AR => wMd cy ad o ss u.1 im wa le ro re u.2 nu) (fun r u => Q r u.1 u.2) := by
  refine gI_I (by decide) (Nat.le_of_ble_eq_true rfl) ?_
  intro p e s m args below meth c A Qg F hK hA ret H locs ls hl hP hD hS
  have F : CallFix p m c cX4_leave 5 s args gT RX4 := F
  have hl : lv_has ls 5 [(0, .ref (ad 0))] := hl
  have L8 : ∀ (n : Nat) (y1 : Int) (y2 : Int) (y3 : Int) (mm : AR) (fa : AR) (H : Heap) (locs : List Loc) (ls : Array Slot), wX4_leave_8 ss Q n y1 y2 y3 mm fa → va_P D vwCl (wMd cy ad o ss mm im wa le ro re fa nu) H → va_D A (wMd cy ad o ss mm im wa le ro re fa nu) → va_S A s.heap H locs → lv_has ls 5 [(0, .ref (ad 0)), (1, .int (iI y1)), (2, .int (iI y2)), (3, .int (iI y3))] → W p l e rX4_leave s m args below meth c H locs 0 0 Qg (F0 m 8 ls []) := by
    intro  n
    induction n with
    | zero => intro _ _ _ _ _ _ _ _ h; exact h.elim
    | succ n ih =>
      intro y1 y2 y3 mm fa H locs ls h hP hD hS hl
      rw [wX4_leave_8_s] at h
      refine lv_iload_n F.1 F.2.1 dX4_leave_8 rfl (lv_at hl 3 rfl) ?_
      refine lv_aload_n F.1 F.2.1 dX4_leave_9 rfl (lv_at hl 0 rfl) ?_
      refine gv_get F hin4 hK hP 0 rfl rfl 0 (by decide) k756 rfl dX4_leave_10 ?_
      refine gv_iconst F dX4_leave_13 ?_
      refine gv_iald (n := 147) (g := ss) F hK hP 1 rfl rfl (by decide) ⟨by decide, by decide⟩ dX4_leave_14 ?_
      obtain ⟨g1, h⟩ := h
      obtain ⟨g2, h⟩ := h
      refine gv_icmp_ge (tgt := 54) F g1 g2 dX4_leave_15 (by decide) (fun c3 => ?_) (fun c3 => ?_)
      · have h := h.1 c3
        refine lv_iload_n F.1 F.2.1 dX4_leave_54 rfl (lv_at hl 1 rfl) ?_
        exact ret y1 (mm, fa) H locs 55 ls h rfl hP hD hS dX4_leave_55
      · have h := h.2 c3
        refine lv_aload_n F.1 F.2.1 dX4_leave_18 rfl (lv_at hl 0 rfl) ?_
        refine lv_iload_n F.1 F.2.1 dX4_leave_19 rfl (lv_at hl 3 rfl) ?_
        refine gc_VV (As := [.int (iI y3)]) (wn := fun u : AR => wMd cy ad o ss u im wa le ro re fa nu) F hK hA hP hD hS hP hD (fun u H1 _ h1 h2 => ⟨h1, h2⟩) (c_X4_leaves l D cy ad o ss mm im wa le ro re fa nu y3 _ h) (cwV 1 F.2.2.2.2 (gG_V k1029 k1031 k54 k67 k1032) rfl rfl rfl hd_X4_leaves ⟨Nat.le_of_ble_eq_true rfl, Nat.le_of_ble_eq_true rfl⟩) rfl rfl dX4_leave_20 rfl rfl hl.1 (Nat.le_of_ble_eq_true rfl) ⟨Nat.le_of_ble_eq_true rfl, Nat.le_of_ble_eq_true rfl⟩ (fun z4 H locs h hP hD hS => ?_)
        try dsimp only at h hP hD
        refine lv_aload_n F.1 F.2.1 dX4_leave_23 rfl (lv_at hl 0 rfl) ?_
        refine gc_VI (As := []) (wn := fun u : AR × AR => wMd cy ad o ss u.1 im wa le ro re u.2 nu) F hK hA hP hD hS hP hD (fun u H1 _ h1 h2 => ⟨h1, h2⟩) (c_X4_allDoneIn l D cy ad o ss z4 im wa le ro re fa nu _ h) (cwV 0 F.2.2.2.2 (gG_V k991 k993 k52 k67 k994) rfl rfl rfl hd_X4_allDoneIn ⟨Nat.le_of_ble_eq_true rfl, Nat.le_of_ble_eq_true rfl⟩) rfl rfl dX4_leave_24 rfl rfl hl.1 (Nat.le_of_ble_eq_true rfl) ⟨Nat.le_of_ble_eq_true rfl, Nat.le_of_ble_eq_true rfl⟩ (fun u7 u H locs h hP hD hS => ?_)
        obtain ⟨z5, z6⟩ := u
        try dsimp only at h hP hD
        refine lv_istore (lv' := [(4, .int (iI u7)), (0, .ref (ad 0)), (1, .int (iI y1)), (2, .int (iI y2)), (3, .int (iI y3))]) F.1 F.2.1 dX4_leave_27 hl (by decide) rfl (fun ls hl => ?_)
        refine lv_iload F.1 F.2.1 dX4_leave_29 (lv_at hl 0 rfl) ?_
        obtain ⟨g8, h⟩ := h
        refine gv_if_lt (tgt := 48) F g8 dX4_leave_31 (by decide) (fun c9 => ?_) (fun c9 => ?_)
        · have h := h.1 c9
          obtain ⟨v10, ev10⟩ : ∃ z : Int, z = y3 + 1 := ⟨_, rfl⟩
          have h := h v10 ev10
          refine gv_iinc (lv' := [(3, .int (iI v10)), (4, .int (iI u7)), (0, .ref (ad 0)), (1, .int (iI y1)), (2, .int (iI y2))]) F dX4_leave_48 hl (k := 4) rfl ev10 (by decide) rfl (fun ls hl => ?_)
          refine lv_goto (tgt := 8) F.1 F.2.1 dX4_leave_51 (by decide) ?_
          exact ih y1 y2 v10 z5 z6 H locs ls h hP hD hS (lv_sub hl [2, 3, 4, 0] rfl)
        · have h := h.2 c9
          refine lv_iload F.1 F.2.1 dX4_leave_34 (lv_at hl 0 rfl) ?_
          refine lv_iload_n F.1 F.2.1 dX4_leave_36 rfl (lv_at hl 3 rfl) ?_
          obtain ⟨g11, h⟩ := h
          refine gv_icmp_lt (tgt := 43) F g8 g11 dX4_leave_37 (by decide) (fun c12 => ?_) (fun c12 => ?_)
          · have h := h.1 c12
            refine lv_iload_n F.1 F.2.1 dX4_leave_43 rfl (lv_at hl 4 rfl) ?_
            refine lv_istore_n (lv' := [(1, .int (iI y3)), (4, .int (iI u7)), (0, .ref (ad 0)), (2, .int (iI y2)), (3, .int (iI y3))]) F.1 F.2.1 dX4_leave_44 rfl hl (by decide) rfl (fun ls hl => ?_)
            refine lv_iload F.1 F.2.1 dX4_leave_45 (lv_at hl 1 rfl) ?_
            refine lv_istore_n (lv' := [(2, .int (iI u7)), (1, .int (iI y3)), (4, .int (iI u7)), (0, .ref (ad 0)), (3, .int (iI y3))]) F.1 F.2.1 dX4_leave_47 rfl hl (by decide) rfl (fun ls hl => ?_)
            obtain ⟨v13, ev13⟩ : ∃ z : Int, z = y3 + 1 := ⟨_, rfl⟩
            have h := h v13 ev13
            refine gv_iinc (lv' := [(3, .int (iI v13)), (2, .int (iI u7)), (1, .int (iI y3)), (4, .int (iI u7)), (0, .ref (ad 0))]) F dX4_leave_48 hl (k := 4) rfl ev13 (by decide) rfl (fun ls hl => ?_)
            refine lv_goto (tgt := 8) F.1 F.2.1 dX4_leave_51 (by decide) ?_
            exact ih y3 u7 v13 z5 z6 H locs ls h hP hD hS (lv_sub hl [4, 2, 1, 0] rfl)
          · have h := h.2 c12
            refine lv_goto (tgt := 48) F.1 F.2.1 dX4_leave_40 (by decide) ?_
            obtain ⟨v14, ev14⟩ : ∃ z : Int, z = y3 + 1 := ⟨_, rfl⟩
            have h := h v14 ev14
            refine gv_iinc (lv' := [(3, .int (iI v14)), (4, .int (iI u7)), (0, .ref (ad 0)), (1, .int (iI y1)), (2, .int (iI y2))]) F dX4_leave_48 hl (k := 4) rfl ev14 (by decide) rfl (fun ls hl => ?_)
            refine lv_goto (tgt := 8) F.1 F.2.1 dX4_leave_51 (by decide) ?_
            exact ih y1 y2 v14 z5 z6 H locs ls h hP hD hS (lv_sub hl [2, 3, 4, 0] rfl)
  refine gv_bipush F ⟨by decide, by decide⟩ dX4_leave_0 ?_
  refine lv_istore_n (lv' := [(1, .int (iI (-9))), (0, .ref (ad 0))]) F.1 F.2.1 dX4_leave_2 rfl hl (by decide) rfl (fun ls hl => ?_)
  refine gv_ldc (n := 1000000000) F k896 rfl dX4_leave_3 ?_
  refine lv_istore_n (lv' := [(2, .int (iI 1000000000)), (1, .int (iI (-9))), (0, .ref (ad 0))]) F.1 F.2.1 dX4_leave_5 rfl hl (by decide) rfl (fun ls hl => ?_)
  refine gv_iconst F dX4_leave_6 ?_
  refine lv_istore_n (lv' := [(3, .int (iI 0)), (2, .int (iI 1000000000)), (1, .int (iI (-9))), (0, .ref (ad 0))]) F.1 F.2.1 dX4_leave_7 rfl hl (by decide) rfl (fun ls hl => ?_)
  obtain ⟨n15, h⟩ := h
  exact L8 n15 (-9) 1000000000 0 mm fa H locs ls h hP hD hS (lv_sub hl [3, 2, 1, 0] rfl)
abbrev rX4_tell : Room := { frames := 6, cells := 0, slots := 0, locals := 141 }
set_option maxHeartbeats 4000000 in
set_option maxRecDepth 20000 in
theorem c_X4_tell (l : Launch) (D : va_G) (cy : ClassId) (ad : Nat → Nat) (o : AR) (ss : AR) (mm : AR) (im : AR) (wa : AR) (le : AR) (ro : AR) (re : AR) (fa : AR) (nu : AR) (x1 : Int) (Q : Int → AR → AR → AR → Prop) (h : wX4_tell ss mm re fa x1 Q) : MetI l yX4_tell (wT yX4_tell cX4_tell 7 (some .int)) rX4_tell D cy [.ref (ad 0), .int (iI x1)] (wMd cy ad o ss mm im wa le ro re fa nu) (fun u : AR × AR × AR => wMd cy ad o ss u.1 im wa le ro u.2.1 u.2.2 nu) (fun r u => Q r u.1 u.2.1 u.2.2) := by
  refine gI_I (by decide) (Nat.le_of_ble_eq_true rfl) ?_
  intro p e s m args below meth c A Qg F hK hA ret H locs ls hl hP hD hS
  have F : CallFix p m c cX4_tell 7 s args gT RX4 := F
  have hl : lv_has ls 7 [(0, .ref (ad 0)), (1, .int (iI x1))] := hl
  have L50 : ∀ (n : Nat) (y1 : Int) (y3 : Int) (y4 : Int) (y5 : Int) (mm : AR) (re : AR) (fa : AR) (H : Heap) (locs : List Loc) (ls : Array Slot), wX4_tell_50 ss Q n y1 y3 y4 y5 mm re fa → va_P D vwCl (wMd cy ad o ss mm im wa le ro re fa nu) H → va_D A (wMd cy ad o ss mm im wa le ro re fa nu) → va_S A s.heap H locs → lv_has ls 7 [(0, .ref (ad 0)), (1, .int (iI y1)), (3, .int (iI y3)), (4, .int (iI y4)), (5, .int (iI y5))] → W p l e rX4_tell s m args below meth c H locs 0 0 Qg (F0 m 50 ls []) := by
    intro  n
    induction n with
    | zero => intro _ _ _ _ _ _ _ _ _ _ h; exact h.elim
    | succ n ih =>
      intro y1 y3 y4 y5 mm re fa H locs ls h hP hD hS hl
      rw [wX4_tell_50_s] at h
      refine lv_iload F.1 F.2.1 dX4_tell_50 (lv_at hl 4 rfl) ?_
      refine lv_aload_n F.1 F.2.1 dX4_tell_52 rfl (lv_at hl 0 rfl) ?_
      refine gv_get F hin4 hK hP 0 rfl rfl 0 (by decide) k756 rfl dX4_tell_53 ?_
      refine gv_iconst F dX4_tell_56 ?_
      refine gv_iald (n := 147) (g := ss) F hK hP 1 rfl rfl (by decide) ⟨by decide, by decide⟩ dX4_tell_57 ?_
      obtain ⟨g1, h⟩ := h
      obtain ⟨g2, h⟩ := h
      refine gv_icmp_ge (tgt := 124) F g1 g2 dX4_tell_58 (by decide) (fun c3 => ?_) (fun c3 => ?_)
      · have h := h.1 c3
        refine lv_iload F.1 F.2.1 dX4_tell_124 (lv_at hl 3 rfl) ?_
        exact ret y4 (mm, re, fa) H locs 126 ls h rfl hP hD hS dX4_tell_126
      · have h := h.2 c3
        refine lv_aload_n F.1 F.2.1 dX4_tell_61 rfl (lv_at hl 0 rfl) ?_
        refine gv_get F hin4 hK hP 0 rfl rfl 0 (by decide) k756 rfl dX4_tell_62 ?_
        refine lv_aload_n F.1 F.2.1 dX4_tell_65 rfl (lv_at hl 0 rfl) ?_
        refine gv_get F hin4 hK hP 0 rfl rfl 1 (by decide) k757 rfl dX4_tell_66 ?_
        refine gc_SV (As := [.ref (ad 1), .ref (ad 2)]) (wn := fun u : AR => wMd cy ad o ss u im wa le ro re fa nu) F hK hA hP hD hS (cp_md_s_m hP) (cd_md_s_m hD) (fun u H1 hk h1 _ => cj_md_s_m hP hD u H1 hk h1) (c_X4_lays l D cy (ad 1) (ad 2) ss mm _ h) (cwS 2 F.2.2.2.2 (gG_S k842 k843 k67 k844) rfl rfl rfl hd_X4_lays ⟨Nat.le_of_ble_eq_true rfl, Nat.le_of_ble_eq_true rfl⟩) dX4_tell_69 rfl rfl hl.1 (Nat.le_of_ble_eq_true rfl) ⟨Nat.le_of_ble_eq_true rfl, Nat.le_of_ble_eq_true rfl⟩ (fun z4 H locs h hP hD hS => ?_)
        try dsimp only at h hP hD
        refine lv_aload_n F.1 F.2.1 dX4_tell_72 rfl (lv_at hl 0 rfl) ?_
        refine gv_get F hin4 hK hP 0 rfl rfl 1 (by decide) k757 rfl dX4_tell_73 ?_
        refine lv_iload F.1 F.2.1 dX4_tell_76 (lv_at hl 4 rfl) ?_
        refine gv_iconst F dX4_tell_78 ?_
        refine gc_SR (As := [.int (iI y5), .int (iI 0)]) F hK hA hP hS gPnil (c_X4_ask l D cy y5 0 _ h) (cwS 2 F.2.2.2.2 (gG_S k856 k857 k67 k858) rfl rfl rfl hd_X4_ask ⟨Nat.le_of_ble_eq_true rfl, Nat.le_of_ble_eq_true rfl⟩) dX4_tell_79 rfl rfl hl.1 (Nat.le_of_ble_eq_true rfl) ⟨Nat.le_of_ble_eq_true rfl, Nat.le_of_ble_eq_true rfl⟩ (fun u5 H locs h hP hS => ?_)
        refine gv_iconst F dX4_tell_82 ?_
        obtain ⟨g6, h⟩ := h
        obtain ⟨z7, ez7⟩ : ∃ z : AR, z = su z4 u5 5 := ⟨_, rfl⟩
        have h := h z7 ez7
        refine gv_iast (n := 147) (g := z4) (ws' := wMd cy ad o ss z7 im wa le ro re fa nu) F hK hP hD hS 2 rfl rfl (by decide) g6 (by subst ez7; exact rfl) dX4_tell_83 (fun H locs hP hD hS => ?_)
        refine lv_aload_n F.1 F.2.1 dX4_tell_84 rfl (lv_at hl 0 rfl) ?_
        refine lv_aload_n F.1 F.2.1 dX4_tell_85 rfl (lv_at hl 0 rfl) ?_
        refine gv_get F hin4 hK hP 0 rfl rfl 1 (by decide) k757 rfl dX4_tell_86 ?_
        refine lv_iload_n F.1 F.2.1 dX4_tell_89 rfl (lv_at hl 1 rfl) ?_
        refine gc_VV (As := [.ref (ad 2), .int (iI y1)]) (wn := fun u : AR × AR => wMd cy ad o ss u.2 im wa le ro re u.1 nu) F hK hA hP hD hS (cp_md_fm hP) (cd_md_fm hD) (fun u H1 hk h1 _ => cj_md_fm hP hD u.1 u.2 H1 hk h1) (c_X4_minutesOn l D cy ad (ad 2) o fa z7 y1 _ h) (cwV 2 F.2.2.2.2 (gG_V k873 k875 k43 k67 k876) rfl rfl rfl hd_X4_minutesOn ⟨Nat.le_of_ble_eq_true rfl, Nat.le_of_ble_eq_true rfl⟩) rfl rfl dX4_tell_90 rfl rfl hl.1 (Nat.le_of_ble_eq_true rfl) ⟨Nat.le_of_ble_eq_true rfl, Nat.le_of_ble_eq_true rfl⟩ (fun u H locs h hP hD hS => ?_)
        obtain ⟨z8, z9⟩ := u
        try dsimp only at h hP hD
        refine lv_aload_n F.1 F.2.1 dX4_tell_93 rfl (lv_at hl 0 rfl) ?_
        refine gv_get F hin4 hK hP 0 rfl rfl 1 (by decide) k757 rfl dX4_tell_94 ?_
        refine gc_SR (As := [.ref (ad 2)]) F hK hA hP hS (cp_md_m hP) (c_X4_rightAll l D cy (ad 2) z9 _ h) (cwS 1 F.2.2.2.2 (gG_S k949 k950 k67 k951) rfl rfl rfl hd_X4_rightAll ⟨Nat.le_of_ble_eq_true rfl, Nat.le_of_ble_eq_true rfl⟩) dX4_tell_97 rfl rfl hl.1 (Nat.le_of_ble_eq_true rfl) ⟨Nat.le_of_ble_eq_true rfl, Nat.le_of_ble_eq_true rfl⟩ (fun u10 H locs h hP hS => ?_)
        refine lv_istore (lv' := [(6, .int (iI u10)), (0, .ref (ad 0)), (1, .int (iI y1)), (3, .int (iI y3)), (4, .int (iI y4)), (5, .int (iI y5))]) F.1 F.2.1 dX4_tell_100 hl (by decide) rfl (fun ls hl => ?_)
        refine lv_iload F.1 F.2.1 dX4_tell_102 (lv_at hl 0 rfl) ?_
        refine lv_iload_n F.1 F.2.1 dX4_tell_104 rfl (lv_at hl 3 rfl) ?_
        obtain ⟨g11, h⟩ := h
        obtain ⟨g12, h⟩ := h
        refine gv_icmp_gt (tgt := 111) F g11 g12 dX4_tell_105 (by decide) (fun c13 => ?_) (fun c13 => ?_)
        · have h := h.1 c13
          refine lv_iload F.1 F.2.1 dX4_tell_111 (lv_at hl 5 rfl) ?_
          refine lv_istore (lv' := [(4, .int (iI y5)), (6, .int (iI u10)), (0, .ref (ad 0)), (1, .int (iI y1)), (3, .int (iI y3)), (5, .int (iI y5))]) F.1 F.2.1 dX4_tell_113 hl (by decide) rfl (fun ls hl => ?_)
          refine lv_iload F.1 F.2.1 dX4_tell_115 (lv_at hl 1 rfl) ?_
          refine lv_istore_n (lv' := [(3, .int (iI u10)), (4, .int (iI y5)), (6, .int (iI u10)), (0, .ref (ad 0)), (1, .int (iI y1)), (5, .int (iI y5))]) F.1 F.2.1 dX4_tell_117 rfl hl (by decide) rfl (fun ls hl => ?_)
          obtain ⟨v14, ev14⟩ : ∃ z : Int, z = y5 + 1 := ⟨_, rfl⟩
          have h := h v14 ev14
          refine gv_iinc (lv' := [(5, .int (iI v14)), (3, .int (iI u10)), (4, .int (iI y5)), (6, .int (iI u10)), (0, .ref (ad 0)), (1, .int (iI y1))]) F dX4_tell_118 hl (k := 5) rfl ev14 (by decide) rfl (fun ls hl => ?_)
          refine lv_goto (tgt := 50) F.1 F.2.1 dX4_tell_121 (by decide) ?_
          exact ih y1 u10 y5 v14 z9 re z8 H locs ls h hP hD hS (lv_sub hl [4, 5, 1, 2, 0] rfl)
        · have h := h.2 c13
          refine lv_goto (tgt := 118) F.1 F.2.1 dX4_tell_108 (by decide) ?_
          obtain ⟨v15, ev15⟩ : ∃ z : Int, z = y5 + 1 := ⟨_, rfl⟩
          have h := h v15 ev15
          refine gv_iinc (lv' := [(5, .int (iI v15)), (6, .int (iI u10)), (0, .ref (ad 0)), (1, .int (iI y1)), (3, .int (iI y3)), (4, .int (iI y4))]) F dX4_tell_118 hl (k := 5) rfl ev15 (by decide) rfl (fun ls hl => ?_)
          refine lv_goto (tgt := 50) F.1 F.2.1 dX4_tell_121 (by decide) ?_
          exact ih y1 y3 y4 v15 z9 re z8 H locs ls h hP hD hS (lv_sub hl [2, 3, 4, 5, 0] rfl)
  refine lv_iload_n F.1 F.2.1 dX4_tell_0 rfl (lv_at hl 1 rfl) ?_
  refine gc_SR (As := [.int (iI x1)]) F hK hA hP hS gPnil (c_X4_wrongMinutes l D cy x1 _ h) (cwS 1 F.2.2.2.2 (gG_S k959 k960 k67 k961) rfl rfl rfl hd_X4_wrongMinutes ⟨Nat.le_of_ble_eq_true rfl, Nat.le_of_ble_eq_true rfl⟩) dX4_tell_1 rfl rfl hl.1 (Nat.le_of_ble_eq_true rfl) ⟨Nat.le_of_ble_eq_true rfl, Nat.le_of_ble_eq_true rfl⟩ (fun u16 H locs h hP hS => ?_)
  refine lv_istore_n (lv' := [(2, .int (iI u16)), (0, .ref (ad 0)), (1, .int (iI x1))]) F.1 F.2.1 dX4_tell_4 rfl hl (by decide) rfl (fun ls hl => ?_)
  refine lv_iload_n F.1 F.2.1 dX4_tell_5 rfl (lv_at hl 0 rfl) ?_
  obtain ⟨g17, h⟩ := h
  refine gv_if_eq (tgt := 15) F g17 dX4_tell_6 (by decide) (fun c18 => ?_) (fun c18 => ?_)
  · have h := h.1 c18
    refine lv_aload_n F.1 F.2.1 dX4_tell_15 rfl (lv_at hl 1 rfl) ?_
    refine gv_get F hin4 hK hP 0 rfl rfl 0 (by decide) k756 rfl dX4_tell_16 ?_
    refine lv_aload_n F.1 F.2.1 dX4_tell_19 rfl (lv_at hl 1 rfl) ?_
    refine gv_get F hin4 hK hP 0 rfl rfl 1 (by decide) k757 rfl dX4_tell_20 ?_
    refine gc_SV (As := [.ref (ad 1), .ref (ad 2)]) (wn := fun u : AR => wMd cy ad o ss u im wa le ro re fa nu) F hK hA hP hD hS (cp_md_s_m hP) (cd_md_s_m hD) (fun u H1 hk h1 _ => cj_md_s_m hP hD u H1 hk h1) (c_X4_lays l D cy (ad 1) (ad 2) ss mm _ h) (cwS 2 F.2.2.2.2 (gG_S k842 k843 k67 k844) rfl rfl rfl hd_X4_lays ⟨Nat.le_of_ble_eq_true rfl, Nat.le_of_ble_eq_true rfl⟩) dX4_tell_23 rfl rfl hl.1 (Nat.le_of_ble_eq_true rfl) ⟨Nat.le_of_ble_eq_true rfl, Nat.le_of_ble_eq_true rfl⟩ (fun z19 H locs h hP hD hS => ?_)
    try dsimp only at h hP hD
    refine lv_aload_n F.1 F.2.1 dX4_tell_26 rfl (lv_at hl 1 rfl) ?_
    refine lv_aload_n F.1 F.2.1 dX4_tell_27 rfl (lv_at hl 1 rfl) ?_
    refine gv_get F hin4 hK hP 0 rfl rfl 1 (by decide) k757 rfl dX4_tell_28 ?_
    refine lv_iload_n F.1 F.2.1 dX4_tell_31 rfl (lv_at hl 2 rfl) ?_
    refine gc_VV (As := [.ref (ad 2), .int (iI x1)]) (wn := fun u : AR × AR => wMd cy ad o ss u.2 im wa le ro re u.1 nu) F hK hA hP hD hS (cp_md_fm hP) (cd_md_fm hD) (fun u H1 hk h1 _ => cj_md_fm hP hD u.1 u.2 H1 hk h1) (c_X4_minutesOn l D cy ad (ad 2) o fa z19 x1 _ h) (cwV 2 F.2.2.2.2 (gG_V k873 k875 k43 k67 k876) rfl rfl rfl hd_X4_minutesOn ⟨Nat.le_of_ble_eq_true rfl, Nat.le_of_ble_eq_true rfl⟩) rfl rfl dX4_tell_32 rfl rfl hl.1 (Nat.le_of_ble_eq_true rfl) ⟨Nat.le_of_ble_eq_true rfl, Nat.le_of_ble_eq_true rfl⟩ (fun u H locs h hP hD hS => ?_)
    obtain ⟨z20, z21⟩ := u
    try dsimp only at h hP hD
    refine lv_aload_n F.1 F.2.1 dX4_tell_35 rfl (lv_at hl 1 rfl) ?_
    refine gv_get F hin4 hK hP 0 rfl rfl 1 (by decide) k757 rfl dX4_tell_36 ?_
    refine gc_SR (As := [.ref (ad 2)]) F hK hA hP hS (cp_md_m hP) (c_X4_rightAll l D cy (ad 2) z21 _ h) (cwS 1 F.2.2.2.2 (gG_S k949 k950 k67 k951) rfl rfl rfl hd_X4_rightAll ⟨Nat.le_of_ble_eq_true rfl, Nat.le_of_ble_eq_true rfl⟩) dX4_tell_39 rfl rfl hl.1 (Nat.le_of_ble_eq_true rfl) ⟨Nat.le_of_ble_eq_true rfl, Nat.le_of_ble_eq_true rfl⟩ (fun u22 H locs h hP hS => ?_)
    refine lv_istore_n (lv' := [(3, .int (iI u22)), (2, .int (iI u16)), (0, .ref (ad 0)), (1, .int (iI x1))]) F.1 F.2.1 dX4_tell_42 rfl hl (by decide) rfl (fun ls hl => ?_)
    refine gv_bipush F ⟨by decide, by decide⟩ dX4_tell_43 ?_
    refine lv_istore (lv' := [(4, .int (iI (-9))), (3, .int (iI u22)), (2, .int (iI u16)), (0, .ref (ad 0)), (1, .int (iI x1))]) F.1 F.2.1 dX4_tell_45 hl (by decide) rfl (fun ls hl => ?_)
    refine gv_iconst F dX4_tell_47 ?_
    refine lv_istore (lv' := [(5, .int (iI 0)), (4, .int (iI (-9))), (3, .int (iI u22)), (2, .int (iI u16)), (0, .ref (ad 0)), (1, .int (iI x1))]) F.1 F.2.1 dX4_tell_48 hl (by decide) rfl (fun ls hl => ?_)
    obtain ⟨n23, h⟩ := h
    exact L50 n23 x1 u22 (-9) 0 z21 re z20 H locs ls h hP hD hS (lv_sub hl [4, 5, 2, 1, 0] rfl)
  · have h := h.2 c18
    refine lv_aload_n F.1 F.2.1 dX4_tell_9 rfl (lv_at hl 1 rfl) ?_
    refine lv_iload_n F.1 F.2.1 dX4_tell_10 rfl (lv_at hl 0 rfl) ?_
    refine gc_VI (As := [.int (iI u16)]) (wn := fun u : AR => wMd cy ad o ss mm im wa le ro u fa nu) F hK hA hP hD hS hP hD (fun u H1 _ h1 h2 => ⟨h1, h2⟩) (c_X4_no l D cy ad o ss mm im wa le ro re fa nu u16 _ h) (cwV 1 F.2.2.2.2 (gG_V k812 k814 k34 k67 k815) rfl rfl rfl hd_X4_no ⟨Nat.le_of_ble_eq_true rfl, Nat.le_of_ble_eq_true rfl⟩) rfl rfl dX4_tell_11 rfl rfl hl.1 (Nat.le_of_ble_eq_true rfl) ⟨Nat.le_of_ble_eq_true rfl, Nat.le_of_ble_eq_true rfl⟩ (fun u25 z24 H locs h hP hD hS => ?_)
    try dsimp only at h hP hD
    exact ret u25 (mm, z24, fa) H locs 14 ls h rfl hP hD hS dX4_tell_14
abbrev rX4_spreads : Room := { frames := 6, cells := 0, slots := 0, locals := 141 }
set_option maxHeartbeats 4000000 in
set_option maxRecDepth 20000 in
theorem c_X4_spreads (l : Launch) (D : va_G) (cy : ClassId) (ad : Nat → Nat) (o : AR) (ss : AR) (mm : AR) (im : AR) (wa : AR) (le : AR) (ro : AR) (re : AR) (fa : AR) (nu : AR) (x1 x2 : Int) (Q : Int → AR → AR → AR → Prop) (h : wX4_spreads ss mm re fa x1 x2 Q) : MetI l yX4_spreads (wT yX4_spreads cX4_spreads 6 (some .int)) rX4_spreads D cy [.ref (ad 0), .int (iI x1), .int (iI x2)] (wMd cy ad o ss mm im wa le ro re fa nu) (fun u : AR × AR × AR => wMd cy ad o ss u.1 im wa le ro u.2.1 u.2.2 nu) (fun r u => Q r u.1 u.2.1 u.2.2) := by
  refine gI_I (by decide) (Nat.le_of_ble_eq_true rfl) ?_
  intro p e s m args below meth c A Qg F hK hA ret H locs ls hl hP hD hS
  have F : CallFix p m c cX4_spreads 6 s args gT RX4 := F
  have hl : lv_has ls 6 [(0, .ref (ad 0)), (1, .int (iI x1)), (2, .int (iI x2))] := hl
  have L96 : ∀ (n : Nat) (y2 : Int) (y3 : Int) (y4 : Int) (y5 : Int) (mm : AR) (re : AR) (fa : AR) (H : Heap) (locs : List Loc) (ls : Array Slot), wX4_spreads_96 ss Q n y2 y3 y4 y5 mm re fa → va_P D vwCl (wMd cy ad o ss mm im wa le ro re fa nu) H → va_D A (wMd cy ad o ss mm im wa le ro re fa nu) → va_S A s.heap H locs → lv_has ls 6 [(0, .ref (ad 0)), (2, .int (iI y2)), (3, .int (iI y3)), (4, .int (iI y4)), (5, .int (iI y5))] → W p l e rX4_spreads s m args below meth c H locs 0 0 Qg (F0 m 96 ls []) := by
    intro  n
    induction n with
    | zero => intro _ _ _ _ _ _ _ _ _ _ h; exact h.elim
    | succ n ih =>
      intro y2 y3 y4 y5 mm re fa H locs ls h hP hD hS hl
      rw [wX4_spreads_96_s] at h
      refine lv_iload F.1 F.2.1 dX4_spreads_96 (lv_at hl 4 rfl) ?_
      refine lv_aload_n F.1 F.2.1 dX4_spreads_98 rfl (lv_at hl 0 rfl) ?_
      refine gv_get F hin4 hK hP 0 rfl rfl 0 (by decide) k756 rfl dX4_spreads_99 ?_
      refine gv_iconst F dX4_spreads_102 ?_
      refine gv_iald (n := 147) (g := ss) F hK hP 1 rfl rfl (by decide) ⟨by decide, by decide⟩ dX4_spreads_103 ?_
      obtain ⟨g1, h⟩ := h
      obtain ⟨g2, h⟩ := h
      refine gv_icmp_ge (tgt := 138) F g1 g2 dX4_spreads_104 (by decide) (fun c3 => ?_) (fun c3 => ?_)
      · have h := h.1 c3
        refine lv_iload F.1 F.2.1 dX4_spreads_138 (lv_at hl 3 rfl) ?_
        exact ret y4 (mm, re, fa) H locs 140 ls h rfl hP hD hS dX4_spreads_140
      · have h := h.2 c3
        refine lv_iload F.1 F.2.1 dX4_spreads_107 (lv_at hl 3 rfl) ?_
        refine lv_aload_n F.1 F.2.1 dX4_spreads_109 rfl (lv_at hl 0 rfl) ?_
        refine gv_get F hin4 hK hP 0 rfl rfl 1 (by decide) k757 rfl dX4_spreads_110 ?_
        refine lv_iload F.1 F.2.1 dX4_spreads_113 (lv_at hl 4 rfl) ?_
        refine lv_iload_n F.1 F.2.1 dX4_spreads_115 rfl (lv_at hl 1 rfl) ?_
        refine gc_SR (As := [.int (iI y5), .int (iI y2)]) F hK hA hP hS gPnil (c_X4_sheetOf l D cy y5 y2 _ h) (cwS 2 F.2.2.2.2 (gG_S k859 k860 k67 k861) rfl rfl rfl hd_X4_sheetOf ⟨Nat.le_of_ble_eq_true rfl, Nat.le_of_ble_eq_true rfl⟩) dX4_spreads_116 rfl rfl hl.1 (Nat.le_of_ble_eq_true rfl) ⟨Nat.le_of_ble_eq_true rfl, Nat.le_of_ble_eq_true rfl⟩ (fun u4 H locs h hP hS => ?_)
        obtain ⟨g5, h⟩ := h
        refine gv_iald (n := 147) (g := mm) F hK hP 2 rfl rfl (by decide) g5 dX4_spreads_119 ?_
        refine lv_iload_n F.1 F.2.1 dX4_spreads_120 rfl (lv_at hl 2 rfl) ?_
        obtain ⟨g6, h⟩ := h
        obtain ⟨g7, h⟩ := h
        refine gv_icmp_ne (tgt := 128) F g6 g7 dX4_spreads_121 (by decide) (fun c8 => ?_) (fun c8 => ?_)
        · have h := h.1 c8
          refine gv_iconst F dX4_spreads_128 ?_
          refine gv_iadd F dX4_spreads_129 ?_
          refine gv_name (fun v9 ev9 => ?_)
          have h := h v9 ev9
          refine lv_istore (lv' := [(4, .int (iI v9)), (0, .ref (ad 0)), (2, .int (iI y2)), (3, .int (iI y3)), (5, .int (iI y5))]) F.1 F.2.1 dX4_spreads_130 hl (by decide) rfl (fun ls hl => ?_)
          obtain ⟨v10, ev10⟩ : ∃ z : Int, z = y5 + 1 := ⟨_, rfl⟩
          have h := h v10 ev10
          refine gv_iinc (lv' := [(5, .int (iI v10)), (4, .int (iI v9)), (0, .ref (ad 0)), (2, .int (iI y2)), (3, .int (iI y3))]) F dX4_spreads_132 hl (k := 4) rfl ev10 (by decide) rfl (fun ls hl => ?_)
          refine lv_goto (tgt := 96) F.1 F.2.1 dX4_spreads_135 (by decide) ?_
          exact ih y2 y3 v9 v10 mm re fa H locs ls h hP hD hS (lv_sub hl [2, 3, 4, 1, 0] rfl)
        · have h := h.2 c8
          refine gv_iconst F dX4_spreads_124 ?_
          refine lv_goto (tgt := 129) F.1 F.2.1 dX4_spreads_125 (by decide) ?_
          refine gv_iadd F dX4_spreads_129 ?_
          refine gv_name (fun v11 ev11 => ?_)
          have h := h v11 ev11
          refine lv_istore (lv' := [(4, .int (iI v11)), (0, .ref (ad 0)), (2, .int (iI y2)), (3, .int (iI y3)), (5, .int (iI y5))]) F.1 F.2.1 dX4_spreads_130 hl (by decide) rfl (fun ls hl => ?_)
          obtain ⟨v12, ev12⟩ : ∃ z : Int, z = y5 + 1 := ⟨_, rfl⟩
          have h := h v12 ev12
          refine gv_iinc (lv' := [(5, .int (iI v12)), (4, .int (iI v11)), (0, .ref (ad 0)), (2, .int (iI y2)), (3, .int (iI y3))]) F dX4_spreads_132 hl (k := 4) rfl ev12 (by decide) rfl (fun ls hl => ?_)
          refine lv_goto (tgt := 96) F.1 F.2.1 dX4_spreads_135 (by decide) ?_
          exact ih y2 y3 v11 v12 mm re fa H locs ls h hP hD hS (lv_sub hl [2, 3, 4, 1, 0] rfl)
  refine lv_aload_n F.1 F.2.1 dX4_spreads_0 rfl (lv_at hl 0 rfl) ?_
  refine lv_iload_n F.1 F.2.1 dX4_spreads_1 rfl (lv_at hl 1 rfl) ?_
  refine gc_VR (As := [.int (iI x1)]) F hK hA hP hS hP (c_X4_isGroup l D cy ad o ss mm im wa le ro re fa nu x1 _ h) (cwV 1 F.2.2.2.2 (gG_V k865 k867 k41 k67 k868) rfl rfl rfl hd_X4_isGroup ⟨Nat.le_of_ble_eq_true rfl, Nat.le_of_ble_eq_true rfl⟩) rfl rfl dX4_spreads_2 rfl rfl hl.1 (Nat.le_of_ble_eq_true rfl) ⟨Nat.le_of_ble_eq_true rfl, Nat.le_of_ble_eq_true rfl⟩ (fun u13 H locs h hP hS => ?_)
  obtain ⟨bu13, h⟩ := h
  refine gv_if_eq (tgt := 16) F (gRb bu13) dX4_spreads_5 (by decide) (fun c14 => ?_) (fun c14 => ?_)
  · have h := h.1 c14
    refine lv_aload_n F.1 F.2.1 dX4_spreads_16 rfl (lv_at hl 0 rfl) ?_
    refine gv_iconst F dX4_spreads_17 ?_
    refine gc_VI (As := [.int (iI (-1))]) (wn := fun u : AR => wMd cy ad o ss mm im wa le ro u fa nu) F hK hA hP hD hS hP hD (fun u H1 _ h1 h2 => ⟨h1, h2⟩) (c_X4_no l D cy ad o ss mm im wa le ro re fa nu (-1) _ h) (cwV 1 F.2.2.2.2 (gG_V k812 k814 k34 k67 k815) rfl rfl rfl hd_X4_no ⟨Nat.le_of_ble_eq_true rfl, Nat.le_of_ble_eq_true rfl⟩) rfl rfl dX4_spreads_18 rfl rfl hl.1 (Nat.le_of_ble_eq_true rfl) ⟨Nat.le_of_ble_eq_true rfl, Nat.le_of_ble_eq_true rfl⟩ (fun u16 z15 H locs h hP hD hS => ?_)
    try dsimp only at h hP hD
    exact ret u16 (mm, z15, fa) H locs 21 ls h rfl hP hD hS dX4_spreads_21
  · have h := h.2 c14
    refine lv_aload_n F.1 F.2.1 dX4_spreads_8 rfl (lv_at hl 0 rfl) ?_
    refine lv_iload_n F.1 F.2.1 dX4_spreads_9 rfl (lv_at hl 2 rfl) ?_
    refine gc_VR (As := [.int (iI x2)]) F hK hA hP hS hP (c_X4_isQuestion l D cy ad o ss mm im wa le ro re fa nu x2 _ h) (cwV 1 F.2.2.2.2 (gG_V k869 k871 k42 k67 k872) rfl rfl rfl hd_X4_isQuestion ⟨Nat.le_of_ble_eq_true rfl, Nat.le_of_ble_eq_true rfl⟩) rfl rfl dX4_spreads_10 rfl rfl hl.1 (Nat.le_of_ble_eq_true rfl) ⟨Nat.le_of_ble_eq_true rfl, Nat.le_of_ble_eq_true rfl⟩ (fun u17 H locs h hP hS => ?_)
    obtain ⟨bu17, h⟩ := h
    refine gv_if_ne (tgt := 22) F (gRb bu17) dX4_spreads_13 (by decide) (fun c18 => ?_) (fun c18 => ?_)
    · have h := h.1 c18
      refine lv_aload_n F.1 F.2.1 dX4_spreads_22 rfl (lv_at hl 0 rfl) ?_
      refine gv_get F hin4 hK hP 0 rfl rfl 0 (by decide) k756 rfl dX4_spreads_23 ?_
      refine lv_iload_n F.1 F.2.1 dX4_spreads_26 rfl (lv_at hl 1 rfl) ?_
      refine lv_iload_n F.1 F.2.1 dX4_spreads_27 rfl (lv_at hl 2 rfl) ?_
      refine gc_SR (As := [.int (iI x1), .int (iI x2)]) F hK hA hP hS gPnil (c_X4_sheetOf l D cy x1 x2 _ h) (cwS 2 F.2.2.2.2 (gG_S k859 k860 k67 k861) rfl rfl rfl hd_X4_sheetOf ⟨Nat.le_of_ble_eq_true rfl, Nat.le_of_ble_eq_true rfl⟩) dX4_spreads_28 rfl rfl hl.1 (Nat.le_of_ble_eq_true rfl) ⟨Nat.le_of_ble_eq_true rfl, Nat.le_of_ble_eq_true rfl⟩ (fun u19 H locs h hP hS => ?_)
      obtain ⟨g20, h⟩ := h
      refine gv_iald (n := 147) (g := ss) F hK hP 1 rfl rfl (by decide) g20 dX4_spreads_31 ?_
      obtain ⟨g21, h⟩ := h
      refine gv_if_lt (tgt := 42) F g21 dX4_spreads_32 (by decide) (fun c22 => ?_) (fun c22 => ?_)
      · have h := h.1 c22
        refine lv_aload_n F.1 F.2.1 dX4_spreads_42 rfl (lv_at hl 0 rfl) ?_
        refine gv_get F hin4 hK hP 0 rfl rfl 0 (by decide) k756 rfl dX4_spreads_43 ?_
        refine lv_iload_n F.1 F.2.1 dX4_spreads_46 rfl (lv_at hl 2 rfl) ?_
        refine gv_iconst F dX4_spreads_47 ?_
        refine gc_SR (As := [.int (iI x2), .int (iI 3)]) F hK hA hP hS gPnil (c_X4_ask l D cy x2 3 _ h) (cwS 2 F.2.2.2.2 (gG_S k856 k857 k67 k858) rfl rfl rfl hd_X4_ask ⟨Nat.le_of_ble_eq_true rfl, Nat.le_of_ble_eq_true rfl⟩) dX4_spreads_48 rfl rfl hl.1 (Nat.le_of_ble_eq_true rfl) ⟨Nat.le_of_ble_eq_true rfl, Nat.le_of_ble_eq_true rfl⟩ (fun u23 H locs h hP hS => ?_)
        obtain ⟨g24, h⟩ := h
        refine gv_iald (n := 147) (g := ss) F hK hP 1 rfl rfl (by decide) g24 dX4_spreads_51 ?_
        refine gv_iconst F dX4_spreads_52 ?_
        refine gv_iadd F dX4_spreads_53 ?_
        refine gv_bipush F ⟨by decide, by decide⟩ dX4_spreads_54 ?_
        obtain ⟨g25, h⟩ := h
        refine gv_irem F ⟨g25, by decide, by decide⟩ dX4_spreads_56 ?_
        refine gv_name (fun v26 ev26 => ?_)
        have h := h v26 ev26
        refine lv_istore_n (lv' := [(3, .int (iI v26)), (0, .ref (ad 0)), (1, .int (iI x1)), (2, .int (iI x2))]) F.1 F.2.1 dX4_spreads_57 rfl hl (by decide) rfl (fun ls hl => ?_)
        refine lv_aload_n F.1 F.2.1 dX4_spreads_58 rfl (lv_at hl 1 rfl) ?_
        refine gv_get F hin4 hK hP 0 rfl rfl 0 (by decide) k756 rfl dX4_spreads_59 ?_
        refine lv_aload_n F.1 F.2.1 dX4_spreads_62 rfl (lv_at hl 1 rfl) ?_
        refine gv_get F hin4 hK hP 0 rfl rfl 1 (by decide) k757 rfl dX4_spreads_63 ?_
        refine gc_SV (As := [.ref (ad 1), .ref (ad 2)]) (wn := fun u : AR => wMd cy ad o ss u im wa le ro re fa nu) F hK hA hP hD hS (cp_md_s_m hP) (cd_md_s_m hD) (fun u H1 hk h1 _ => cj_md_s_m hP hD u H1 hk h1) (c_X4_lays l D cy (ad 1) (ad 2) ss mm _ h) (cwS 2 F.2.2.2.2 (gG_S k842 k843 k67 k844) rfl rfl rfl hd_X4_lays ⟨Nat.le_of_ble_eq_true rfl, Nat.le_of_ble_eq_true rfl⟩) dX4_spreads_66 rfl rfl hl.1 (Nat.le_of_ble_eq_true rfl) ⟨Nat.le_of_ble_eq_true rfl, Nat.le_of_ble_eq_true rfl⟩ (fun z27 H locs h hP hD hS => ?_)
        try dsimp only at h hP hD
        refine lv_aload_n F.1 F.2.1 dX4_spreads_69 rfl (lv_at hl 1 rfl) ?_
        refine gv_get F hin4 hK hP 0 rfl rfl 1 (by decide) k757 rfl dX4_spreads_70 ?_
        refine lv_iload_n F.1 F.2.1 dX4_spreads_73 rfl (lv_at hl 2 rfl) ?_
        refine lv_iload_n F.1 F.2.1 dX4_spreads_74 rfl (lv_at hl 3 rfl) ?_
        refine gc_SR (As := [.int (iI x1), .int (iI x2)]) F hK hA hP hS gPnil (c_X4_sheetOf l D cy x1 x2 _ h) (cwS 2 F.2.2.2.2 (gG_S k859 k860 k67 k861) rfl rfl rfl hd_X4_sheetOf ⟨Nat.le_of_ble_eq_true rfl, Nat.le_of_ble_eq_true rfl⟩) dX4_spreads_75 rfl rfl hl.1 (Nat.le_of_ble_eq_true rfl) ⟨Nat.le_of_ble_eq_true rfl, Nat.le_of_ble_eq_true rfl⟩ (fun u28 H locs h hP hS => ?_)
        refine lv_iload_n F.1 F.2.1 dX4_spreads_78 rfl (lv_at hl 0 rfl) ?_
        obtain ⟨g29, h⟩ := h
        obtain ⟨z30, ez30⟩ : ∃ z : AR, z = su z27 u28 v26 := ⟨_, rfl⟩
        have h := h z30 ez30
        refine gv_iast (n := 147) (g := z27) (ws' := wMd cy ad o ss z30 im wa le ro re fa nu) F hK hP hD hS 2 rfl rfl (by decide) g29 (by subst ez30; exact rfl) dX4_spreads_79 (fun H locs hP hD hS => ?_)
        refine lv_aload_n F.1 F.2.1 dX4_spreads_80 rfl (lv_at hl 1 rfl) ?_
        refine lv_aload_n F.1 F.2.1 dX4_spreads_81 rfl (lv_at hl 1 rfl) ?_
        refine gv_get F hin4 hK hP 0 rfl rfl 1 (by decide) k757 rfl dX4_spreads_82 ?_
        refine gv_bipush F ⟨by decide, by decide⟩ dX4_spreads_85 ?_
        refine gc_VV (As := [.ref (ad 2), .int (iI 99)]) (wn := fun u : AR × AR => wMd cy ad o ss u.2 im wa le ro re u.1 nu) F hK hA hP hD hS (cp_md_fm hP) (cd_md_fm hD) (fun u H1 hk h1 _ => cj_md_fm hP hD u.1 u.2 H1 hk h1) (c_X4_minutesOn l D cy ad (ad 2) o fa z30 99 _ h) (cwV 2 F.2.2.2.2 (gG_V k873 k875 k43 k67 k876) rfl rfl rfl hd_X4_minutesOn ⟨Nat.le_of_ble_eq_true rfl, Nat.le_of_ble_eq_true rfl⟩) rfl rfl dX4_spreads_87 rfl rfl hl.1 (Nat.le_of_ble_eq_true rfl) ⟨Nat.le_of_ble_eq_true rfl, Nat.le_of_ble_eq_true rfl⟩ (fun u H locs h hP hD hS => ?_)
        obtain ⟨z31, z32⟩ := u
        try dsimp only at h hP hD
        refine gv_iconst F dX4_spreads_90 ?_
        refine lv_istore (lv' := [(4, .int (iI 0)), (3, .int (iI v26)), (0, .ref (ad 0)), (1, .int (iI x1)), (2, .int (iI x2))]) F.1 F.2.1 dX4_spreads_91 hl (by decide) rfl (fun ls hl => ?_)
        refine gv_iconst F dX4_spreads_93 ?_
        refine lv_istore (lv' := [(5, .int (iI 0)), (4, .int (iI 0)), (3, .int (iI v26)), (0, .ref (ad 0)), (1, .int (iI x1)), (2, .int (iI x2))]) F.1 F.2.1 dX4_spreads_94 hl (by decide) rfl (fun ls hl => ?_)
        obtain ⟨n33, h⟩ := h
        exact L96 n33 x2 v26 0 0 z32 re z31 H locs ls h hP hD hS (lv_sub hl [3, 5, 2, 1, 0] rfl)
      · have h := h.2 c22
        refine lv_aload_n F.1 F.2.1 dX4_spreads_35 rfl (lv_at hl 0 rfl) ?_
        refine gv_bipush F ⟨by decide, by decide⟩ dX4_spreads_36 ?_
        refine gc_VI (As := [.int (iI (-3))]) (wn := fun u : AR => wMd cy ad o ss mm im wa le ro u fa nu) F hK hA hP hD hS hP hD (fun u H1 _ h1 h2 => ⟨h1, h2⟩) (c_X4_no l D cy ad o ss mm im wa le ro re fa nu (-3) _ h) (cwV 1 F.2.2.2.2 (gG_V k812 k814 k34 k67 k815) rfl rfl rfl hd_X4_no ⟨Nat.le_of_ble_eq_true rfl, Nat.le_of_ble_eq_true rfl⟩) rfl rfl dX4_spreads_38 rfl rfl hl.1 (Nat.le_of_ble_eq_true rfl) ⟨Nat.le_of_ble_eq_true rfl, Nat.le_of_ble_eq_true rfl⟩ (fun u35 z34 H locs h hP hD hS => ?_)
        try dsimp only at h hP hD
        exact ret u35 (mm, z34, fa) H locs 41 ls h rfl hP hD hS dX4_spreads_41
    · have h := h.2 c18
      refine lv_aload_n F.1 F.2.1 dX4_spreads_16 rfl (lv_at hl 0 rfl) ?_
      refine gv_iconst F dX4_spreads_17 ?_
      refine gc_VI (As := [.int (iI (-1))]) (wn := fun u : AR => wMd cy ad o ss mm im wa le ro u fa nu) F hK hA hP hD hS hP hD (fun u H1 _ h1 h2 => ⟨h1, h2⟩) (c_X4_no l D cy ad o ss mm im wa le ro re fa nu (-1) _ h) (cwV 1 F.2.2.2.2 (gG_V k812 k814 k34 k67 k815) rfl rfl rfl hd_X4_no ⟨Nat.le_of_ble_eq_true rfl, Nat.le_of_ble_eq_true rfl⟩) rfl rfl dX4_spreads_18 rfl rfl hl.1 (Nat.le_of_ble_eq_true rfl) ⟨Nat.le_of_ble_eq_true rfl, Nat.le_of_ble_eq_true rfl⟩ (fun u37 z36 H locs h hP hD hS => ?_)
      try dsimp only at h hP hD
      exact ret u37 (mm, z36, fa) H locs 21 ls h rfl hP hD hS dX4_spreads_21
abbrev rX4_missing : Room := { frames := 6, cells := 0, slots := 0, locals := 141 }
set_option maxHeartbeats 4000000 in
set_option maxRecDepth 20000 in
theorem c_X4_missing (l : Launch) (D : va_G) (cy : ClassId) (ad : Nat → Nat) (o : AR) (ss : AR) (mm : AR) (im : AR) (wa : AR) (le : AR) (ro : AR) (re : AR) (fa : AR) (nu : AR) (x1 x2 : Int) (Q : Int → AR → AR → AR → Prop) (h : wX4_missing ss mm re fa x1 x2 Q) : MetI l yX4_missing (wT yX4_missing cX4_missing 6 (some .int)) rX4_missing D cy [.ref (ad 0), .int (iI x1), .int (iI x2)] (wMd cy ad o ss mm im wa le ro re fa nu) (fun u : AR × AR × AR => wMd cy ad o ss u.1 im wa le ro u.2.1 u.2.2 nu) (fun r u => Q r u.1 u.2.1 u.2.2) := by
  refine gI_I (by decide) (Nat.le_of_ble_eq_true rfl) ?_
  intro p e s m args below meth c A Qg F hK hA ret H locs ls hl hP hD hS
  have F : CallFix p m c cX4_missing 6 s args gT RX4 := F
  have hl : lv_has ls 6 [(0, .ref (ad 0)), (1, .int (iI x1)), (2, .int (iI x2))] := hl
  have L59 : ∀ (n : Nat) (y2 : Int) (y3 : Int) (y4 : Int) (mm : AR) (re : AR) (fa : AR) (H : Heap) (locs : List Loc) (ls : Array Slot), wX4_missing_59 ss Q n y2 y3 y4 mm re fa → va_P D vwCl (wMd cy ad o ss mm im wa le ro re fa nu) H → va_D A (wMd cy ad o ss mm im wa le ro re fa nu) → va_S A s.heap H locs → lv_has ls 6 [(0, .ref (ad 0)), (2, .int (iI y2)), (3, .int (iI y3)), (4, .int (iI y4))] → W p l e rX4_missing s m args below meth c H locs 0 0 Qg (F0 m 59 ls []) := by
    intro  n
    induction n with
    | zero => intro _ _ _ _ _ _ _ _ _ h; exact h.elim
    | succ n ih =>
      intro y2 y3 y4 mm re fa H locs ls h hP hD hS hl
      rw [wX4_missing_59_s] at h
      refine lv_iload F.1 F.2.1 dX4_missing_59 (lv_at hl 3 rfl) ?_
      refine lv_aload_n F.1 F.2.1 dX4_missing_61 rfl (lv_at hl 0 rfl) ?_
      refine gv_get F hin4 hK hP 0 rfl rfl 0 (by decide) k756 rfl dX4_missing_62 ?_
      refine gv_iconst F dX4_missing_65 ?_
      refine gv_iald (n := 147) (g := ss) F hK hP 1 rfl rfl (by decide) ⟨by decide, by decide⟩ dX4_missing_66 ?_
      obtain ⟨g1, h⟩ := h
      obtain ⟨g2, h⟩ := h
      refine gv_icmp_ge (tgt := 120) F g1 g2 dX4_missing_67 (by decide) (fun c3 => ?_) (fun c3 => ?_)
      · have h := h.1 c3
        refine lv_iload_n F.1 F.2.1 dX4_missing_120 rfl (lv_at hl 2 rfl) ?_
        exact ret y3 (mm, re, fa) H locs 121 ls h rfl hP hD hS dX4_missing_121
      · have h := h.2 c3
        refine lv_aload_n F.1 F.2.1 dX4_missing_70 rfl (lv_at hl 0 rfl) ?_
        refine lv_aload_n F.1 F.2.1 dX4_missing_71 rfl (lv_at hl 0 rfl) ?_
        refine gv_get F hin4 hK hP 0 rfl rfl 1 (by decide) k757 rfl dX4_missing_72 ?_
        refine lv_aload_n F.1 F.2.1 dX4_missing_75 rfl (lv_at hl 0 rfl) ?_
        refine gv_get F hin4 hK hP 0 rfl rfl 1 (by decide) k757 rfl dX4_missing_76 ?_
        refine lv_iload F.1 F.2.1 dX4_missing_79 (lv_at hl 3 rfl) ?_
        refine gv_iconst F dX4_missing_81 ?_
        refine gc_SR (As := [.int (iI y4), .int (iI 3)]) F hK hA hP hS gPnil (c_X4_of l D cy y4 3 _ h) (cwS 2 F.2.2.2.2 (gG_S k862 k863 k67 k864) rfl rfl rfl hd_X4_of ⟨Nat.le_of_ble_eq_true rfl, Nat.le_of_ble_eq_true rfl⟩) dX4_missing_82 rfl rfl hl.1 (Nat.le_of_ble_eq_true rfl) ⟨Nat.le_of_ble_eq_true rfl, Nat.le_of_ble_eq_true rfl⟩ (fun u4 H locs h hP hS => ?_)
        obtain ⟨g5, h⟩ := h
        refine gv_iald (n := 147) (g := mm) F hK hP 2 rfl rfl (by decide) g5 dX4_missing_85 ?_
        refine gv_iconst F dX4_missing_86 ?_
        refine gc_VI (As := [.ref (ad 2), .int (iI (mm u4)), .int (iI 0)]) (wn := fun u : AR => wMd cy ad o ss mm im wa le ro re u nu) F hK hA hP hD hS (cp_md_fm hP) (cd_md_fm hD) (fun u H1 hk h1 _ => cj_md_fm hP hD u mm H1 hk h1) (c_X4_doors l D cy ad (ad 2) o fa mm (mm u4) 0 _ h) (cwV 3 F.2.2.2.2 (gG_V k913 k915 k48 k67 k916) rfl rfl rfl hd_X4_doors ⟨Nat.le_of_ble_eq_true rfl, Nat.le_of_ble_eq_true rfl⟩) rfl rfl dX4_missing_87 rfl rfl hl.1 (Nat.le_of_ble_eq_true rfl) ⟨Nat.le_of_ble_eq_true rfl, Nat.le_of_ble_eq_true rfl⟩ (fun u7 z6 H locs h hP hD hS => ?_)
        try dsimp only at h hP hD
        refine lv_istore (lv' := [(5, .int (iI u7)), (0, .ref (ad 0)), (2, .int (iI y2)), (3, .int (iI y3)), (4, .int (iI y4))]) F.1 F.2.1 dX4_missing_90 hl (by decide) rfl (fun ls hl => ?_)
        refine lv_iload_n F.1 F.2.1 dX4_missing_92 rfl (lv_at hl 3 rfl) ?_
        refine lv_iload F.1 F.2.1 dX4_missing_93 (lv_at hl 0 rfl) ?_
        obtain ⟨g8, h⟩ := h
        refine gv_if_lt (tgt := 104) F g8 dX4_missing_95 (by decide) (fun c9 => ?_) (fun c9 => ?_)
        · have h := h.1 c9
          refine gv_iconst F dX4_missing_104 ?_
          refine lv_iload F.1 F.2.1 dX4_missing_105 (lv_at hl 4 rfl) ?_
          obtain ⟨g10, h⟩ := h
          refine gv_ishl F g10 dX4_missing_107 ?_
          refine lv_goto (tgt := 112) F.1 F.2.1 dX4_missing_108 (by decide) ?_
          obtain ⟨g11, h⟩ := h
          refine gv_ior F g11 dX4_missing_112 ?_
          refine gv_name (fun v12 ev12 => ?_)
          have h := h v12 ev12
          refine lv_istore_n (lv' := [(3, .int (iI v12)), (5, .int (iI u7)), (0, .ref (ad 0)), (2, .int (iI y2)), (4, .int (iI y4))]) F.1 F.2.1 dX4_missing_113 rfl hl (by decide) rfl (fun ls hl => ?_)
          obtain ⟨v13, ev13⟩ : ∃ z : Int, z = y4 + 1 := ⟨_, rfl⟩
          have h := h v13 ev13
          refine gv_iinc (lv' := [(4, .int (iI v13)), (3, .int (iI v12)), (5, .int (iI u7)), (0, .ref (ad 0)), (2, .int (iI y2))]) F dX4_missing_114 hl (k := 4) rfl ev13 (by decide) rfl (fun ls hl => ?_)
          refine lv_goto (tgt := 59) F.1 F.2.1 dX4_missing_117 (by decide) ?_
          exact ih y2 v12 v13 mm re z6 H locs ls h hP hD hS (lv_sub hl [3, 4, 1, 0] rfl)
        · have h := h.2 c9
          refine lv_iload F.1 F.2.1 dX4_missing_98 (lv_at hl 0 rfl) ?_
          refine lv_iload_n F.1 F.2.1 dX4_missing_100 rfl (lv_at hl 2 rfl) ?_
          obtain ⟨g14, h⟩ := h
          refine gv_icmp_le (tgt := 111) F g8 g14 dX4_missing_101 (by decide) (fun c15 => ?_) (fun c15 => ?_)
          · have h := h.1 c15
            refine gv_iconst F dX4_missing_111 ?_
            obtain ⟨g16, h⟩ := h
            refine gv_ior F g16 dX4_missing_112 ?_
            refine gv_name (fun v17 ev17 => ?_)
            have h := h v17 ev17
            refine lv_istore_n (lv' := [(3, .int (iI v17)), (5, .int (iI u7)), (0, .ref (ad 0)), (2, .int (iI y2)), (4, .int (iI y4))]) F.1 F.2.1 dX4_missing_113 rfl hl (by decide) rfl (fun ls hl => ?_)
            obtain ⟨v18, ev18⟩ : ∃ z : Int, z = y4 + 1 := ⟨_, rfl⟩
            have h := h v18 ev18
            refine gv_iinc (lv' := [(4, .int (iI v18)), (3, .int (iI v17)), (5, .int (iI u7)), (0, .ref (ad 0)), (2, .int (iI y2))]) F dX4_missing_114 hl (k := 4) rfl ev18 (by decide) rfl (fun ls hl => ?_)
            refine lv_goto (tgt := 59) F.1 F.2.1 dX4_missing_117 (by decide) ?_
            exact ih y2 v17 v18 mm re z6 H locs ls h hP hD hS (lv_sub hl [3, 4, 1, 0] rfl)
          · have h := h.2 c15
            refine gv_iconst F dX4_missing_104 ?_
            refine lv_iload F.1 F.2.1 dX4_missing_105 (lv_at hl 4 rfl) ?_
            obtain ⟨g19, h⟩ := h
            refine gv_ishl F g19 dX4_missing_107 ?_
            refine lv_goto (tgt := 112) F.1 F.2.1 dX4_missing_108 (by decide) ?_
            obtain ⟨g20, h⟩ := h
            refine gv_ior F g20 dX4_missing_112 ?_
            refine gv_name (fun v21 ev21 => ?_)
            have h := h v21 ev21
            refine lv_istore_n (lv' := [(3, .int (iI v21)), (5, .int (iI u7)), (0, .ref (ad 0)), (2, .int (iI y2)), (4, .int (iI y4))]) F.1 F.2.1 dX4_missing_113 rfl hl (by decide) rfl (fun ls hl => ?_)
            obtain ⟨v22, ev22⟩ : ∃ z : Int, z = y4 + 1 := ⟨_, rfl⟩
            have h := h v22 ev22
            refine gv_iinc (lv' := [(4, .int (iI v22)), (3, .int (iI v21)), (5, .int (iI u7)), (0, .ref (ad 0)), (2, .int (iI y2))]) F dX4_missing_114 hl (k := 4) rfl ev22 (by decide) rfl (fun ls hl => ?_)
            refine lv_goto (tgt := 59) F.1 F.2.1 dX4_missing_117 (by decide) ?_
            exact ih y2 v21 v22 mm re z6 H locs ls h hP hD hS (lv_sub hl [3, 4, 1, 0] rfl)
  refine lv_iload_n F.1 F.2.1 dX4_missing_0 rfl (lv_at hl 1 rfl) ?_
  obtain ⟨g23, h⟩ := h
  refine gv_if_lt (tgt := 8) F g23 dX4_missing_1 (by decide) (fun c24 => ?_) (fun c24 => ?_)
  · have h := h.1 c24
    refine lv_aload_n F.1 F.2.1 dX4_missing_8 rfl (lv_at hl 0 rfl) ?_
    refine gv_bipush F ⟨by decide, by decide⟩ dX4_missing_9 ?_
    refine gc_VI (As := [.int (iI (-4))]) (wn := fun u : AR => wMd cy ad o ss mm im wa le ro u fa nu) F hK hA hP hD hS hP hD (fun u H1 _ h1 h2 => ⟨h1, h2⟩) (c_X4_no l D cy ad o ss mm im wa le ro re fa nu (-4) _ h) (cwV 1 F.2.2.2.2 (gG_V k812 k814 k34 k67 k815) rfl rfl rfl hd_X4_no ⟨Nat.le_of_ble_eq_true rfl, Nat.le_of_ble_eq_true rfl⟩) rfl rfl dX4_missing_11 rfl rfl hl.1 (Nat.le_of_ble_eq_true rfl) ⟨Nat.le_of_ble_eq_true rfl, Nat.le_of_ble_eq_true rfl⟩ (fun u26 z25 H locs h hP hD hS => ?_)
    try dsimp only at h hP hD
    exact ret u26 (mm, z25, fa) H locs 14 ls h rfl hP hD hS dX4_missing_14
  · have h := h.2 c24
    refine lv_iload_n F.1 F.2.1 dX4_missing_4 rfl (lv_at hl 2 rfl) ?_
    obtain ⟨g27, h⟩ := h
    refine gv_if_ge (tgt := 15) F g27 dX4_missing_5 (by decide) (fun c28 => ?_) (fun c28 => ?_)
    · have h := h.1 c28
      refine lv_iload_n F.1 F.2.1 dX4_missing_15 rfl (lv_at hl 1 rfl) ?_
      refine gv_bipush F ⟨by decide, by decide⟩ dX4_missing_16 ?_
      refine gv_icmp_gt (tgt := 27) F g23 ⟨by decide, by decide⟩ dX4_missing_18 (by decide) (fun c29 => ?_) (fun c29 => ?_)
      · have h := h.1 c29
        refine lv_aload_n F.1 F.2.1 dX4_missing_27 rfl (lv_at hl 0 rfl) ?_
        refine gv_bipush F ⟨by decide, by decide⟩ dX4_missing_28 ?_
        refine gc_VI (As := [.int (iI (-6))]) (wn := fun u : AR => wMd cy ad o ss mm im wa le ro u fa nu) F hK hA hP hD hS hP hD (fun u H1 _ h1 h2 => ⟨h1, h2⟩) (c_X4_no l D cy ad o ss mm im wa le ro re fa nu (-6) _ h) (cwV 1 F.2.2.2.2 (gG_V k812 k814 k34 k67 k815) rfl rfl rfl hd_X4_no ⟨Nat.le_of_ble_eq_true rfl, Nat.le_of_ble_eq_true rfl⟩) rfl rfl dX4_missing_30 rfl rfl hl.1 (Nat.le_of_ble_eq_true rfl) ⟨Nat.le_of_ble_eq_true rfl, Nat.le_of_ble_eq_true rfl⟩ (fun u31 z30 H locs h hP hD hS => ?_)
        try dsimp only at h hP hD
        exact ret u31 (mm, z30, fa) H locs 33 ls h rfl hP hD hS dX4_missing_33
      · have h := h.2 c29
        refine lv_iload_n F.1 F.2.1 dX4_missing_21 rfl (lv_at hl 2 rfl) ?_
        refine gv_bipush F ⟨by decide, by decide⟩ dX4_missing_22 ?_
        refine gv_icmp_le (tgt := 34) F g27 ⟨by decide, by decide⟩ dX4_missing_24 (by decide) (fun c32 => ?_) (fun c32 => ?_)
        · have h := h.1 c32
          refine lv_aload_n F.1 F.2.1 dX4_missing_34 rfl (lv_at hl 0 rfl) ?_
          refine gv_get F hin4 hK hP 0 rfl rfl 0 (by decide) k756 rfl dX4_missing_35 ?_
          refine lv_aload_n F.1 F.2.1 dX4_missing_38 rfl (lv_at hl 0 rfl) ?_
          refine gv_get F hin4 hK hP 0 rfl rfl 1 (by decide) k757 rfl dX4_missing_39 ?_
          refine gc_SV (As := [.ref (ad 1), .ref (ad 2)]) (wn := fun u : AR => wMd cy ad o ss u im wa le ro re fa nu) F hK hA hP hD hS (cp_md_s_m hP) (cd_md_s_m hD) (fun u H1 hk h1 _ => cj_md_s_m hP hD u H1 hk h1) (c_X4_lays l D cy (ad 1) (ad 2) ss mm _ h) (cwS 2 F.2.2.2.2 (gG_S k842 k843 k67 k844) rfl rfl rfl hd_X4_lays ⟨Nat.le_of_ble_eq_true rfl, Nat.le_of_ble_eq_true rfl⟩) dX4_missing_42 rfl rfl hl.1 (Nat.le_of_ble_eq_true rfl) ⟨Nat.le_of_ble_eq_true rfl, Nat.le_of_ble_eq_true rfl⟩ (fun z33 H locs h hP hD hS => ?_)
          try dsimp only at h hP hD
          refine lv_aload_n F.1 F.2.1 dX4_missing_45 rfl (lv_at hl 0 rfl) ?_
          refine lv_aload_n F.1 F.2.1 dX4_missing_46 rfl (lv_at hl 0 rfl) ?_
          refine gv_get F hin4 hK hP 0 rfl rfl 1 (by decide) k757 rfl dX4_missing_47 ?_
          refine lv_iload_n F.1 F.2.1 dX4_missing_50 rfl (lv_at hl 1 rfl) ?_
          refine gc_VV (As := [.ref (ad 2), .int (iI x1)]) (wn := fun u : AR × AR => wMd cy ad o ss u.2 im wa le ro re u.1 nu) F hK hA hP hD hS (cp_md_fm hP) (cd_md_fm hD) (fun u H1 hk h1 _ => cj_md_fm hP hD u.1 u.2 H1 hk h1) (c_X4_minutesOn l D cy ad (ad 2) o fa z33 x1 _ h) (cwV 2 F.2.2.2.2 (gG_V k873 k875 k43 k67 k876) rfl rfl rfl hd_X4_minutesOn ⟨Nat.le_of_ble_eq_true rfl, Nat.le_of_ble_eq_true rfl⟩) rfl rfl dX4_missing_51 rfl rfl hl.1 (Nat.le_of_ble_eq_true rfl) ⟨Nat.le_of_ble_eq_true rfl, Nat.le_of_ble_eq_true rfl⟩ (fun u H locs h hP hD hS => ?_)
          obtain ⟨z34, z35⟩ := u
          try dsimp only at h hP hD
          refine gv_iconst F dX4_missing_54 ?_
          refine lv_istore_n (lv' := [(3, .int (iI 0)), (0, .ref (ad 0)), (1, .int (iI x1)), (2, .int (iI x2))]) F.1 F.2.1 dX4_missing_55 rfl hl (by decide) rfl (fun ls hl => ?_)
          refine gv_iconst F dX4_missing_56 ?_
          refine lv_istore (lv' := [(4, .int (iI 0)), (3, .int (iI 0)), (0, .ref (ad 0)), (1, .int (iI x1)), (2, .int (iI x2))]) F.1 F.2.1 dX4_missing_57 hl (by decide) rfl (fun ls hl => ?_)
          obtain ⟨n36, h⟩ := h
          exact L59 n36 x2 0 0 z35 re z34 H locs ls h hP hD hS (lv_sub hl [2, 4, 1, 0] rfl)
        · have h := h.2 c32
          refine lv_aload_n F.1 F.2.1 dX4_missing_27 rfl (lv_at hl 0 rfl) ?_
          refine gv_bipush F ⟨by decide, by decide⟩ dX4_missing_28 ?_
          refine gc_VI (As := [.int (iI (-6))]) (wn := fun u : AR => wMd cy ad o ss mm im wa le ro u fa nu) F hK hA hP hD hS hP hD (fun u H1 _ h1 h2 => ⟨h1, h2⟩) (c_X4_no l D cy ad o ss mm im wa le ro re fa nu (-6) _ h) (cwV 1 F.2.2.2.2 (gG_V k812 k814 k34 k67 k815) rfl rfl rfl hd_X4_no ⟨Nat.le_of_ble_eq_true rfl, Nat.le_of_ble_eq_true rfl⟩) rfl rfl dX4_missing_30 rfl rfl hl.1 (Nat.le_of_ble_eq_true rfl) ⟨Nat.le_of_ble_eq_true rfl, Nat.le_of_ble_eq_true rfl⟩ (fun u38 z37 H locs h hP hD hS => ?_)
          try dsimp only at h hP hD
          exact ret u38 (mm, z37, fa) H locs 33 ls h rfl hP hD hS dX4_missing_33
    · have h := h.2 c28
      refine lv_aload_n F.1 F.2.1 dX4_missing_8 rfl (lv_at hl 0 rfl) ?_
      refine gv_bipush F ⟨by decide, by decide⟩ dX4_missing_9 ?_
      refine gc_VI (As := [.int (iI (-4))]) (wn := fun u : AR => wMd cy ad o ss mm im wa le ro u fa nu) F hK hA hP hD hS hP hD (fun u H1 _ h1 h2 => ⟨h1, h2⟩) (c_X4_no l D cy ad o ss mm im wa le ro re fa nu (-4) _ h) (cwV 1 F.2.2.2.2 (gG_V k812 k814 k34 k67 k815) rfl rfl rfl hd_X4_no ⟨Nat.le_of_ble_eq_true rfl, Nat.le_of_ble_eq_true rfl⟩) rfl rfl dX4_missing_11 rfl rfl hl.1 (Nat.le_of_ble_eq_true rfl) ⟨Nat.le_of_ble_eq_true rfl, Nat.le_of_ble_eq_true rfl⟩ (fun u40 z39 H locs h hP hD hS => ?_)
      try dsimp only at h hP hD
      exact ret u40 (mm, z39, fa) H locs 14 ls h rfl hP hD hS dX4_missing_14
abbrev rX4_orNever : Room := { frames := 0, cells := 0, slots := 0, locals := 0 }
set_option maxHeartbeats 4000000 in
set_option maxRecDepth 20000 in
theorem c_X4_orNever (l : Launch) (D : va_G) (cy : ClassId) (ad : Nat → Nat) (o : AR) (ss : AR) (mm : AR) (im : AR) (wa : AR) (le : AR) (ro : AR) (re : AR) (fa : AR) (nu : AR) (x1 : Int) (Q : Int → Prop) (h : wX4_orNever x1 Q) : MetR l yX4_orNever (wT yX4_orNever cX4_orNever 2 (some .int)) rX4_orNever D cy [.ref (ad 0), .int (iI x1)] (wMd cy ad o ss mm im wa le ro re fa nu) Q := by
  refine gI_R (by decide) (Nat.le_of_ble_eq_true rfl) ?_
  intro p e s m args below meth c A Qg F hK hA ret H locs ls hl hP hS
  have F : CallFix p m c cX4_orNever 2 s args gT RX4 := F
  have hl : lv_has ls 2 [(0, .ref (ad 0)), (1, .int (iI x1))] := hl
  refine lv_iload_n F.1 F.2.1 dX4_orNever_0 rfl (lv_at hl 1 rfl) ?_
  obtain ⟨g1, h⟩ := h
  refine gv_if_ge (tgt := 9) F g1 dX4_orNever_1 (by decide) (fun c2 => ?_) (fun c2 => ?_)
  · have h := h.1 c2
    refine lv_iload_n F.1 F.2.1 dX4_orNever_9 rfl (lv_at hl 1 rfl) ?_
    exact ret x1 H locs 10 ls h rfl hS dX4_orNever_10
  · have h := h.2 c2
    refine gv_bipush F ⟨by decide, by decide⟩ dX4_orNever_4 ?_
    refine lv_goto (tgt := 10) F.1 F.2.1 dX4_orNever_6 (by decide) ?_
    exact ret 100 H locs 10 ls h rfl hS dX4_orNever_10
abbrev rX4_worth : Room := { frames := 7, cells := 0, slots := 0, locals := 161 }
set_option maxHeartbeats 4000000 in
set_option maxRecDepth 20000 in
theorem c_X4_worth (l : Launch) (D : va_G) (cy : ClassId) (ad : Nat → Nat) (o : AR) (ss : AR) (mm : AR) (im : AR) (wa : AR) (le : AR) (ro : AR) (re : AR) (fa : AR) (nu : AR) (x1 : Int) (Q : Int → AR → AR → AR → Prop) (h : wX4_worth ss mm re fa x1 Q) : MetI l yX4_worth (wT yX4_worth cX4_worth 4 (some .int)) rX4_worth D cy [.ref (ad 0), .int (iI x1)] (wMd cy ad o ss mm im wa le ro re fa nu) (fun u : AR × AR × AR => wMd cy ad o ss u.1 im wa le ro u.2.1 u.2.2 nu) (fun r u => Q r u.1 u.2.1 u.2.2) := by
  refine gI_I (by decide) (Nat.le_of_ble_eq_true rfl) ?_
  intro p e s m args below meth c A Qg F hK hA ret H locs ls hl hP hD hS
  have F : CallFix p m c cX4_worth 4 s args gT RX4 := F
  have hl : lv_has ls 4 [(0, .ref (ad 0)), (1, .int (iI x1))] := hl
  have L18 : ∀ (n : Nat) (y1 : Int) (y2 : Int) (y3 : Int) (mm : AR) (re : AR) (fa : AR) (H : Heap) (locs : List Loc) (ls : Array Slot), wX4_worth_18 ss Q n y1 y2 y3 mm re fa → va_P D vwCl (wMd cy ad o ss mm im wa le ro re fa nu) H → va_D A (wMd cy ad o ss mm im wa le ro re fa nu) → va_S A s.heap H locs → lv_has ls 4 [(0, .ref (ad 0)), (1, .int (iI y1)), (2, .int (iI y2)), (3, .int (iI y3))] → W p l e rX4_worth s m args below meth c H locs 0 0 Qg (F0 m 18 ls []) := by
    intro  n
    induction n with
    | zero => intro _ _ _ _ _ _ _ _ _ h; exact h.elim
    | succ n ih =>
      intro y1 y2 y3 mm re fa H locs ls h hP hD hS hl
      rw [wX4_worth_18_s] at h
      refine lv_iload_n F.1 F.2.1 dX4_worth_18 rfl (lv_at hl 3 rfl) ?_
      refine lv_aload_n F.1 F.2.1 dX4_worth_19 rfl (lv_at hl 0 rfl) ?_
      refine gv_get F hin4 hK hP 0 rfl rfl 0 (by decide) k756 rfl dX4_worth_20 ?_
      refine gv_iconst F dX4_worth_23 ?_
      refine gv_iald (n := 147) (g := ss) F hK hP 1 rfl rfl (by decide) ⟨by decide, by decide⟩ dX4_worth_24 ?_
      obtain ⟨g1, h⟩ := h
      obtain ⟨g2, h⟩ := h
      refine gv_icmp_ge (tgt := 63) F g1 g2 dX4_worth_25 (by decide) (fun c3 => ?_) (fun c3 => ?_)
      · have h := h.1 c3
        refine lv_iload_n F.1 F.2.1 dX4_worth_63 rfl (lv_at hl 2 rfl) ?_
        exact ret y2 (mm, re, fa) H locs 64 ls h rfl hP hD hS dX4_worth_64
      · have h := h.2 c3
        refine lv_iload_n F.1 F.2.1 dX4_worth_28 rfl (lv_at hl 2 rfl) ?_
        refine lv_aload_n F.1 F.2.1 dX4_worth_29 rfl (lv_at hl 0 rfl) ?_
        refine lv_aload_n F.1 F.2.1 dX4_worth_30 rfl (lv_at hl 0 rfl) ?_
        refine lv_iload_n F.1 F.2.1 dX4_worth_31 rfl (lv_at hl 3 rfl) ?_
        refine gc_VI (As := [.int (iI y3)]) (wn := fun u : AR × AR => wMd cy ad o ss u.1 im wa le ro re u.2 nu) F hK hA hP hD hS hP hD (fun u H1 _ h1 h2 => ⟨h1, h2⟩) (c_X4_doneNow l D cy ad o ss mm im wa le ro re fa nu y3 _ h) (cwV 1 F.2.2.2.2 (gG_V k976 k978 k50 k67 k979) rfl rfl rfl hd_X4_doneNow ⟨Nat.le_of_ble_eq_true rfl, Nat.le_of_ble_eq_true rfl⟩) rfl rfl dX4_worth_32 rfl rfl hl.1 (Nat.le_of_ble_eq_true rfl) ⟨Nat.le_of_ble_eq_true rfl, Nat.le_of_ble_eq_true rfl⟩ (fun u6 u H locs h hP hD hS => ?_)
        obtain ⟨z4, z5⟩ := u
        try dsimp only at h hP hD
        refine gc_VR (As := [.int (iI u6)]) F hK hA hP hS hP (c_X4_orNever l D cy ad o ss z4 im wa le ro re z5 nu u6 _ h) (cwV 1 F.2.2.2.2 (gG_V k1053 k1055 k56 k67 k1056) rfl rfl rfl hd_X4_orNever ⟨Nat.le_of_ble_eq_true rfl, Nat.le_of_ble_eq_true rfl⟩) rfl rfl dX4_worth_35 rfl rfl hl.1 (Nat.le_of_ble_eq_true rfl) ⟨Nat.le_of_ble_eq_true rfl, Nat.le_of_ble_eq_true rfl⟩ (fun u7 H locs h hP hS => ?_)
        refine gv_iadd F dX4_worth_38 ?_
        refine gv_name (fun v8 ev8 => ?_)
        have h := h v8 ev8
        refine lv_istore_n (lv' := [(2, .int (iI v8)), (0, .ref (ad 0)), (1, .int (iI y1)), (3, .int (iI y3))]) F.1 F.2.1 dX4_worth_39 rfl hl (by decide) rfl (fun ls hl => ?_)
        refine lv_aload_n F.1 F.2.1 dX4_worth_40 rfl (lv_at hl 1 rfl) ?_
        refine lv_iload_n F.1 F.2.1 dX4_worth_41 rfl (lv_at hl 2 rfl) ?_
        refine gc_VV (As := [.int (iI y1)]) (wn := fun u : AR => wMd cy ad o ss u im wa le ro re z5 nu) F hK hA hP hD hS hP hD (fun u H1 _ h1 h2 => ⟨h1, h2⟩) (c_X4_leaves l D cy ad o ss z4 im wa le ro re z5 nu y1 _ h) (cwV 1 F.2.2.2.2 (gG_V k1029 k1031 k54 k67 k1032) rfl rfl rfl hd_X4_leaves ⟨Nat.le_of_ble_eq_true rfl, Nat.le_of_ble_eq_true rfl⟩) rfl rfl dX4_worth_42 rfl rfl hl.1 (Nat.le_of_ble_eq_true rfl) ⟨Nat.le_of_ble_eq_true rfl, Nat.le_of_ble_eq_true rfl⟩ (fun z9 H locs h hP hD hS => ?_)
        try dsimp only at h hP hD
        refine lv_iload_n F.1 F.2.1 dX4_worth_45 rfl (lv_at hl 0 rfl) ?_
        refine lv_aload_n F.1 F.2.1 dX4_worth_46 rfl (lv_at hl 1 rfl) ?_
        refine lv_aload_n F.1 F.2.1 dX4_worth_47 rfl (lv_at hl 1 rfl) ?_
        refine lv_iload_n F.1 F.2.1 dX4_worth_48 rfl (lv_at hl 3 rfl) ?_
        refine gc_VI (As := [.int (iI y3)]) (wn := fun u : AR × AR => wMd cy ad o ss u.1 im wa le ro re u.2 nu) F hK hA hP hD hS hP hD (fun u H1 _ h1 h2 => ⟨h1, h2⟩) (c_X4_doneIn l D cy ad o ss z9 im wa le ro re z5 nu y3 _ h) (cwV 1 F.2.2.2.2 (gG_V k980 k982 k51 k67 k983) rfl rfl rfl hd_X4_doneIn ⟨Nat.le_of_ble_eq_true rfl, Nat.le_of_ble_eq_true rfl⟩) rfl rfl dX4_worth_49 rfl rfl hl.1 (Nat.le_of_ble_eq_true rfl) ⟨Nat.le_of_ble_eq_true rfl, Nat.le_of_ble_eq_true rfl⟩ (fun u12 u H locs h hP hD hS => ?_)
        obtain ⟨z10, z11⟩ := u
        try dsimp only at h hP hD
        refine gc_VR (As := [.int (iI u12)]) F hK hA hP hS hP (c_X4_orNever l D cy ad o ss z10 im wa le ro re z11 nu u12 _ h) (cwV 1 F.2.2.2.2 (gG_V k1053 k1055 k56 k67 k1056) rfl rfl rfl hd_X4_orNever ⟨Nat.le_of_ble_eq_true rfl, Nat.le_of_ble_eq_true rfl⟩) rfl rfl dX4_worth_52 rfl rfl hl.1 (Nat.le_of_ble_eq_true rfl) ⟨Nat.le_of_ble_eq_true rfl, Nat.le_of_ble_eq_true rfl⟩ (fun u13 H locs h hP hS => ?_)
        refine gv_isub F dX4_worth_55 ?_
        refine gv_name (fun v14 ev14 => ?_)
        have h := h v14 ev14
        refine lv_istore_n (lv' := [(2, .int (iI v14)), (0, .ref (ad 0)), (1, .int (iI y1)), (3, .int (iI y3))]) F.1 F.2.1 dX4_worth_56 rfl hl (by decide) rfl (fun ls hl => ?_)
        obtain ⟨v15, ev15⟩ : ∃ z : Int, z = y3 + 1 := ⟨_, rfl⟩
        have h := h v15 ev15
        refine gv_iinc (lv' := [(3, .int (iI v15)), (2, .int (iI v14)), (0, .ref (ad 0)), (1, .int (iI y1))]) F dX4_worth_57 hl (k := 3) rfl ev15 (by decide) rfl (fun ls hl => ?_)
        refine lv_goto (tgt := 18) F.1 F.2.1 dX4_worth_60 (by decide) ?_
        exact ih y1 v14 v15 z10 re z11 H locs ls h hP hD hS (lv_sub hl [2, 3, 1, 0] rfl)
  refine lv_aload_n F.1 F.2.1 dX4_worth_0 rfl (lv_at hl 0 rfl) ?_
  refine lv_iload_n F.1 F.2.1 dX4_worth_1 rfl (lv_at hl 1 rfl) ?_
  refine gc_VR (As := [.int (iI x1)]) F hK hA hP hS hP (c_X4_isQuestion l D cy ad o ss mm im wa le ro re fa nu x1 _ h) (cwV 1 F.2.2.2.2 (gG_V k869 k871 k42 k67 k872) rfl rfl rfl hd_X4_isQuestion ⟨Nat.le_of_ble_eq_true rfl, Nat.le_of_ble_eq_true rfl⟩) rfl rfl dX4_worth_2 rfl rfl hl.1 (Nat.le_of_ble_eq_true rfl) ⟨Nat.le_of_ble_eq_true rfl, Nat.le_of_ble_eq_true rfl⟩ (fun u16 H locs h hP hS => ?_)
  obtain ⟨bu16, h⟩ := h
  refine gv_if_ne (tgt := 14) F (gRb bu16) dX4_worth_5 (by decide) (fun c17 => ?_) (fun c17 => ?_)
  · have h := h.1 c17
    refine gv_iconst F dX4_worth_14 ?_
    refine lv_istore_n (lv' := [(2, .int (iI 0)), (0, .ref (ad 0)), (1, .int (iI x1))]) F.1 F.2.1 dX4_worth_15 rfl hl (by decide) rfl (fun ls hl => ?_)
    refine gv_iconst F dX4_worth_16 ?_
    refine lv_istore_n (lv' := [(3, .int (iI 0)), (2, .int (iI 0)), (0, .ref (ad 0)), (1, .int (iI x1))]) F.1 F.2.1 dX4_worth_17 rfl hl (by decide) rfl (fun ls hl => ?_)
    obtain ⟨n18, h⟩ := h
    exact L18 n18 x1 0 0 mm re fa H locs ls h hP hD hS (lv_sub hl [2, 3, 1, 0] rfl)
  · have h := h.2 c17
    refine lv_aload_n F.1 F.2.1 dX4_worth_8 rfl (lv_at hl 0 rfl) ?_
    refine gv_iconst F dX4_worth_9 ?_
    refine gc_VI (As := [.int (iI (-1))]) (wn := fun u : AR => wMd cy ad o ss mm im wa le ro u fa nu) F hK hA hP hD hS hP hD (fun u H1 _ h1 h2 => ⟨h1, h2⟩) (c_X4_noFar l D cy ad o ss mm im wa le ro re fa nu (-1) _ h) (cwV 1 F.2.2.2.2 (gG_V k1049 k1051 k55 k67 k1052) rfl rfl rfl hd_X4_noFar ⟨Nat.le_of_ble_eq_true rfl, Nat.le_of_ble_eq_true rfl⟩) rfl rfl dX4_worth_10 rfl rfl hl.1 (Nat.le_of_ble_eq_true rfl) ⟨Nat.le_of_ble_eq_true rfl, Nat.le_of_ble_eq_true rfl⟩ (fun u20 z19 H locs h hP hD hS => ?_)
    try dsimp only at h hP hD
    exact ret u20 (mm, z19, fa) H locs 13 ls h rfl hP hD hS dX4_worth_13
