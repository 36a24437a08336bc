abbrev rX3_on : Room := { frames := 3, cells := 0, slots := 0, locals := 66 }
set_option maxHeartbeats 4000000 in
set_option maxRecDepth 20000 in
theorem c_X3_on (l : Launch) (D : va_G) (cy : ClassId) (aO : Nat → Nat) (aL : Nat → Nat) (aN : Nat → Nat) (aT : Nat → Nat) (aK : Nat → Nat) (aI : Nat → Nat) (o : AR) (rw : AR) (rf : AR) (lg : AR) (sg : AR) (N : MS) (T : MS) (K : MS) (I : MS) (Q : Int → AR → MS → Prop) (h : wX3_on o rf N I Q) : MetI l yX3_on (wT yX3_on cX3_on 1 (some .int)) rX3_on D cy [.ref (aO 0)] (wGh cy aO aL aN aT aK aI o rw rf lg sg N T K I) (fun u : AR × MS => wGh cy aO aL aN aT aK aI o rw u.1 lg sg u.2 T K I) (fun r u => Q r u.1 u.2) := by
  refine gI_I (by decide) (Nat.le_of_ble_eq_true rfl) ?_
  intro p e s m args below meth c A Qg F hK hA ret H locs ls hl hP hD hS
  have F : CallFix p m c cX3_on 1 s args gT RX3 := F
  have hl : lv_has ls 1 [(0, .ref (aO 0))] := hl
  refine lv_aload_n F.1 F.2.1 dX3_on_0 rfl (lv_at hl 0 rfl) ?_
  refine gv_get F hin3 hK hP 0 rfl rfl 4 (by decide) k192 rfl dX3_on_1 ?_
  obtain ⟨g1, h⟩ := h
  refine gv_if_ne (tgt := 14) F g1 dX3_on_4 (by decide) (fun c2 => ?_) (fun c2 => ?_)
  · have h := h.1 c2
    refine lv_aload_n F.1 F.2.1 dX3_on_14 rfl (lv_at hl 0 rfl) ?_
    refine gv_get F hin3 hK hP 0 rfl rfl 0 (by decide) k188 rfl dX3_on_15 ?_
    refine lv_aload_n F.1 F.2.1 dX3_on_18 rfl (lv_at hl 0 rfl) ?_
    refine gv_get F hin3 hK hP 0 rfl rfl 3 (by decide) k191 rfl dX3_on_19 ?_
    refine gc_VV (As := [.ref (aI 0)]) (wn := fun u : MS => wGh cy aO aL aN aT aK aI o rw rf lg sg u T K I) F hK hA hP hD hS (cp_gh_NI hP) (cd_gh_NI hD) (fun u H1 hk h1 _ => cj_gh_NI hP hD u H1 hk h1) (c_MuBecome l D cy aN aI N I _ h) (cwV 1 F.2.2.2.2 (gG_V k346 k347 k348 k62 k349) rfl rfl rfl hd_X1_become ⟨Nat.le_of_ble_eq_true rfl, Nat.le_of_ble_eq_true rfl⟩) rfl rfl dX3_on_22 rfl rfl hl.1 (Nat.le_of_ble_eq_true rfl) ⟨Nat.le_of_ble_eq_true rfl, Nat.le_of_ble_eq_true rfl⟩ (fun z3 H locs h hP hD hS => ?_)
    try dsimp only at h hP hD
    refine lv_aload_n F.1 F.2.1 dX3_on_25 rfl (lv_at hl 0 rfl) ?_
    refine gv_get F hin3 hK hP 0 rfl rfl 0 (by decide) k188 rfl dX3_on_26 ?_
    refine gv_get F hin1 hK (cp_gh_N hP) 0 rfl rfl 1 (by decide) k119 rfl dX3_on_29 ?_
    exact ret (z3 0 1) (rf, z3) H locs 32 ls h rfl hP hD hS dX3_on_32
  · have h := h.2 c2
    refine lv_aload_n F.1 F.2.1 dX3_on_7 rfl (lv_at hl 0 rfl) ?_
    refine gv_bipush F ⟨by decide, by decide⟩ dX3_on_8 ?_
    refine gc_VI (As := [.int (iI (-3))]) (wn := fun u : AR => wGh cy aO aL aN aT aK aI o rw u lg sg N T K I) F hK hA hP hD hS hP hD (fun u H1 _ h1 h2 => ⟨h1, h2⟩) (c_X3_refuse l D cy aO aL aN aT aK aI o rw rf lg sg N T K I (-3) _ h) (cwV 1 F.2.2.2.2 (gG_V k220 k222 k2 k61 k223) rfl rfl rfl hd_X3_refuse ⟨Nat.le_of_ble_eq_true rfl, Nat.le_of_ble_eq_true rfl⟩) rfl rfl dX3_on_10 rfl rfl hl.1 (Nat.le_of_ble_eq_true rfl) ⟨Nat.le_of_ble_eq_true rfl, Nat.le_of_ble_eq_true rfl⟩ (fun u5 z4 H locs h hP hD hS => ?_)
    try dsimp only at h hP hD
    exact ret u5 (z4, N) H locs 13 ls h rfl hP hD hS dX3_on_13
abbrev rX3_count : Room := { frames := 3, cells := 0, slots := 0, locals := 67 }
set_option maxHeartbeats 4000000 in
set_option maxRecDepth 20000 in
theorem c_X3_count (l : Launch) (D : va_G) (cy : ClassId) (aO : Nat → Nat) (aL : Nat → Nat) (aN : Nat → Nat) (aT : Nat → Nat) (aK : Nat → Nat) (aI : Nat → Nat) (o : AR) (rw : AR) (rf : AR) (lg : AR) (sg : AR) (N : MS) (T : MS) (K : MS) (I : MS) (x1 : Int) (Q : Int → Prop) (h : wX3_count o rf lg N x1 Q) : MetR l yX3_count (wT yX3_count cX3_count 2 (some .int)) rX3_count D cy [.ref (aO 0), .int (iI x1)] (wGh cy aO aL aN aT aK aI o rw rf lg sg N T K I) Q := by
  refine gI_R (by decide) (Nat.le_of_ble_eq_true rfl) ?_
  intro p e s m args below meth c A Qg F hK hA ret H locs ls hl hP hS
  have F : CallFix p m c cX3_count 2 s args gT RX3 := F
  have hl : lv_has ls 2 [(0, .ref (aO 0)), (1, .int (iI x1))] := hl
  refine lv_iload_n F.1 F.2.1 dX3_count_0 rfl (lv_at hl 1 rfl) ?_
  obtain ⟨g1, h⟩ := h
  by_cases c2 : x1 = 0
  · have h := h.1 c2
    refine gv_tableIn (tgt := 48) (off := 47) F g1 c2 (by decide) (by decide) dX3_count_1 rfl (by decide) ?_
    refine lv_aload_n F.1 F.2.1 dX3_count_48 rfl (lv_at hl 0 rfl) ?_
    refine gv_get F hin3 hK hP 0 rfl rfl 0 (by decide) k188 rfl dX3_count_49 ?_
    refine gv_get F hin1 hK (cp_gh_N hP) 0 rfl rfl 2 (by decide) k121 rfl dX3_count_52 ?_
    exact ret (N 0 2) H locs 55 ls h rfl hS dX3_count_55
  by_cases c3 : x1 = 1
  · have h := h.2.1 c3
    refine gv_tableIn (tgt := 56) (off := 55) F g1 c3 (by decide) (by decide) dX3_count_1 rfl (by decide) ?_
    refine lv_aload_n F.1 F.2.1 dX3_count_56 rfl (lv_at hl 0 rfl) ?_
    refine gv_get F hin3 hK hP 0 rfl rfl 0 (by decide) k188 rfl dX3_count_57 ?_
    refine gv_get F hin1 hK (cp_gh_N hP) 0 rfl rfl 7 (by decide) k131 rfl dX3_count_60 ?_
    exact ret (N 0 7) H locs 63 ls h rfl hS dX3_count_63
  by_cases c4 : x1 = 2
  · have h := h.2.2.1 c4
    refine gv_tableIn (tgt := 64) (off := 63) F g1 c4 (by decide) (by decide) dX3_count_1 rfl (by decide) ?_
    refine lv_aload_n F.1 F.2.1 dX3_count_64 rfl (lv_at hl 0 rfl) ?_
    refine gv_get F hin3 hK hP 0 rfl rfl 0 (by decide) k188 rfl dX3_count_65 ?_
    refine gv_get F hin1 hK (cp_gh_N hP) 0 rfl rfl 0 (by decide) k117 rfl dX3_count_68 ?_
    refine gc_VR (As := []) F hK hA hP hS (cp_gh_Nr hP) (c_X2_doors l D cy (fun k => aN (k + 1)) (N 2) (N 3) _ h) (cwV 0 F.2.2.2.2 (gG_V k741 k742 k743 k63 k744) rfl rfl rfl hd_X2_doors ⟨Nat.le_of_ble_eq_true rfl, Nat.le_of_ble_eq_true rfl⟩) rfl rfl dX3_count_71 rfl rfl hl.1 (Nat.le_of_ble_eq_true rfl) ⟨Nat.le_of_ble_eq_true rfl, Nat.le_of_ble_eq_true rfl⟩ (fun u5 H locs h hP hS => ?_)
    exact ret u5 H locs 74 ls h rfl hS dX3_count_74
  by_cases c6 : x1 = 3
  · have h := h.2.2.2.1 c6
    refine gv_tableIn (tgt := 75) (off := 74) F g1 c6 (by decide) (by decide) dX3_count_1 rfl (by decide) ?_
    refine lv_aload_n F.1 F.2.1 dX3_count_75 rfl (lv_at hl 0 rfl) ?_
    refine gv_get F hin3 hK hP 0 rfl rfl 0 (by decide) k188 rfl dX3_count_76 ?_
    refine gv_get F hin1 hK (cp_gh_N hP) 0 rfl rfl 1 (by decide) k119 rfl dX3_count_79 ?_
    exact ret (N 0 1) H locs 82 ls h rfl hS dX3_count_82
  by_cases c7 : x1 = 4
  · have h := h.2.2.2.2.1 c7
    refine gv_tableIn (tgt := 83) (off := 82) F g1 c7 (by decide) (by decide) dX3_count_1 rfl (by decide) ?_
    refine lv_aload_n F.1 F.2.1 dX3_count_83 rfl (lv_at hl 0 rfl) ?_
    refine gv_get F hin3 hK hP 0 rfl rfl 0 (by decide) k188 rfl dX3_count_84 ?_
    refine gc_VR (As := []) F hK hA hP hS (cp_gh_N hP) (c_X1_answersOfAll l D cy aN N _ h) (cwV 0 F.2.2.2.2 (gG_V k745 k746 k747 k62 k748) rfl rfl rfl hd_X1_answersOfAll ⟨Nat.le_of_ble_eq_true rfl, Nat.le_of_ble_eq_true rfl⟩) rfl rfl dX3_count_87 rfl rfl hl.1 (Nat.le_of_ble_eq_true rfl) ⟨Nat.le_of_ble_eq_true rfl, Nat.le_of_ble_eq_true rfl⟩ (fun u8 H locs h hP hS => ?_)
    exact ret u8 H locs 90 ls h rfl hS dX3_count_90
  by_cases c9 : x1 = 5
  · have h := h.2.2.2.2.2.1 c9
    refine gv_tableIn (tgt := 91) (off := 90) F g1 c9 (by decide) (by decide) dX3_count_1 rfl (by decide) ?_
    refine lv_aload_n F.1 F.2.1 dX3_count_91 rfl (lv_at hl 0 rfl) ?_
    refine gv_get F hin3 hK hP 0 rfl rfl 0 (by decide) k188 rfl dX3_count_92 ?_
    refine gc_VR (As := []) F hK hA hP hS (cp_gh_N hP) (c_X1_rightOfAll l D cy aN N _ h) (cwV 0 F.2.2.2.2 (gG_V k523 k524 k525 k62 k526) rfl rfl rfl hd_X1_rightOfAll ⟨Nat.le_of_ble_eq_true rfl, Nat.le_of_ble_eq_true rfl⟩) rfl rfl dX3_count_95 rfl rfl hl.1 (Nat.le_of_ble_eq_true rfl) ⟨Nat.le_of_ble_eq_true rfl, Nat.le_of_ble_eq_true rfl⟩ (fun u10 H locs h hP hS => ?_)
    exact ret u10 H locs 98 ls h rfl hS dX3_count_98
  by_cases c11 : x1 = 6
  · have h := h.2.2.2.2.2.2.1 c11
    refine gv_tableIn (tgt := 99) (off := 98) F g1 c11 (by decide) (by decide) dX3_count_1 rfl (by decide) ?_
    refine lv_aload_n F.1 F.2.1 dX3_count_99 rfl (lv_at hl 0 rfl) ?_
    refine gv_get F hin3 hK hP 0 rfl rfl 7 (by decide) k195 rfl dX3_count_100 ?_
    exact ret (o 7) H locs 103 ls h rfl hS dX3_count_103
  by_cases c12 : x1 = 7
  · have h := h.2.2.2.2.2.2.2.1 c12
    refine gv_tableIn (tgt := 104) (off := 103) F g1 c12 (by decide) (by decide) dX3_count_1 rfl (by decide) ?_
    refine lv_aload_n F.1 F.2.1 dX3_count_104 rfl (lv_at hl 0 rfl) ?_
    refine gv_get F hin3 hK hP 0 rfl rfl 5 (by decide) k193 rfl dX3_count_105 ?_
    refine gc_VR (As := []) F hK hA hP hS (cp_gh_L hP) (c_X0_length l D cy aL lg sg _ h) (cwV 0 F.2.2.2.2 (gG_V k358 k359 k360 k66 k361) rfl rfl rfl hd_X0_length ⟨Nat.le_of_ble_eq_true rfl, Nat.le_of_ble_eq_true rfl⟩) rfl rfl dX3_count_108 rfl rfl hl.1 (Nat.le_of_ble_eq_true rfl) ⟨Nat.le_of_ble_eq_true rfl, Nat.le_of_ble_eq_true rfl⟩ (fun u13 H locs h hP hS => ?_)
    exact ret u13 H locs 111 ls h rfl hS dX3_count_111
  have cd : x1 < 0 ∨ 7 < x1 := by omega
  have h := h.2.2.2.2.2.2.2.2 cd
  refine gv_tableOut (tgt := 112) F g1 cd dX3_count_1 (by decide) ?_
  refine lv_iload_n F.1 F.2.1 dX3_count_112 rfl (lv_at hl 1 rfl) ?_
  refine gv_bipush F ⟨by decide, by decide⟩ dX3_count_113 ?_
  refine gv_icmp_lt (tgt := 136) F g1 ⟨by decide, by decide⟩ dX3_count_115 (by decide) (fun c14 => ?_) (fun c14 => ?_)
  · have h := h.1 c14
    refine gv_bipush F ⟨by decide, by decide⟩ dX3_count_136 ?_
    exact ret (-9) H locs 138 ls h rfl hS dX3_count_138
  · have h := h.2 c14
    refine lv_iload_n F.1 F.2.1 dX3_count_118 rfl (lv_at hl 1 rfl) ?_
    refine gv_bipush F ⟨by decide, by decide⟩ dX3_count_119 ?_
    refine gv_icmp_gt (tgt := 136) F g1 ⟨by decide, by decide⟩ dX3_count_121 (by decide) (fun c15 => ?_) (fun c15 => ?_)
    · have h := h.1 c15
      refine gv_bipush F ⟨by decide, by decide⟩ dX3_count_136 ?_
      exact ret (-9) H locs 138 ls h rfl hS dX3_count_138
    · have h := h.2 c15
      refine lv_aload_n F.1 F.2.1 dX3_count_124 rfl (lv_at hl 0 rfl) ?_
      refine gv_get F hin3 hK hP 0 rfl rfl 8 (by decide) k196 rfl dX3_count_125 ?_
      refine lv_iload_n F.1 F.2.1 dX3_count_128 rfl (lv_at hl 1 rfl) ?_
      refine gv_bipush F ⟨by decide, by decide⟩ dX3_count_129 ?_
      refine gv_isub F dX3_count_131 ?_
      obtain ⟨g16, h⟩ := h
      refine gv_iald (n := 7) (g := rf) F hK hP 2 rfl rfl (by decide) g16 dX3_count_132 ?_
      refine lv_goto (tgt := 138) F.1 F.2.1 dX3_count_133 (by decide) ?_
      exact ret (rf (x1 - 10)) H locs 138 ls h rfl hS dX3_count_138
abbrev rX3_performDoor : Room := { frames := 4, cells := 0, slots := 0, locals := 89 }
set_option maxHeartbeats 4000000 in
set_option maxRecDepth 20000 in
theorem c_X3_performDoor (l : Launch) (D : va_G) (cy : ClassId) (aO : Nat → Nat) (aL : Nat → Nat) (aN : Nat → Nat) (aT : Nat → Nat) (aK : Nat → Nat) (aI : Nat → Nat) (o : AR) (rw : AR) (rf : AR) (lg : AR) (sg : AR) (N : MS) (T : MS) (K : MS) (I : MS) (x1 x2 : Int) (Q : Int → MS → Prop) (h : wX3_performDoor N x1 x2 Q) : MetI l yX3_performDoor (wT yX3_performDoor cX3_performDoor 3 (some .boolean)) rX3_performDoor D cy [.ref (aO 0), .int (iI x1), .int (iI x2)] (wGh cy aO aL aN aT aK aI o rw rf lg sg N T K I) (fun u : MS => wGh cy aO aL aN aT aK aI o rw rf lg sg u T K I) (fun r u => (r = 0 ∨ r = 1) ∧ Q r u) := by
  refine gI_I (by decide) (Nat.le_of_ble_eq_true rfl) ?_
  intro p e s m args below meth c A Qg F hK hA ret H locs ls hl hP hD hS
  have F : CallFix p m c cX3_performDoor 3 s args gT RX3 := F
  have hl : lv_has ls 3 [(0, .ref (aO 0)), (1, .int (iI x1)), (2, .int (iI x2))] := hl
  refine lv_iload_n F.1 F.2.1 dX3_performDoor_0 rfl (lv_at hl 1 rfl) ?_
  refine gc_SR (As := [.int (iI x1)]) F hK hA hP hS gPnil (c_X3_noRoom l D cy x1 _ h) (cwS 1 F.2.2.2.2 (gG_S k375 k376 k61 k377) rfl rfl rfl hd_X3_noRoom ⟨Nat.le_of_ble_eq_true rfl, Nat.le_of_ble_eq_true rfl⟩) dX3_performDoor_1 rfl rfl hl.1 (Nat.le_of_ble_eq_true rfl) ⟨Nat.le_of_ble_eq_true rfl, Nat.le_of_ble_eq_true rfl⟩ (fun u1 H locs h hP hS => ?_)
  obtain ⟨bu1, h⟩ := h
  refine gv_if_ne (tgt := 19) F (gRb bu1) dX3_performDoor_4 (by decide) (fun c2 => ?_) (fun c2 => ?_)
  · have h := h.1 c2
    refine gv_iconst F dX3_performDoor_19 ?_
    exact ret 0 N H locs 20 ls ⟨Or.inl rfl, h⟩ rfl hP hD hS dX3_performDoor_20
  · have h := h.2 c2
    refine lv_iload_n F.1 F.2.1 dX3_performDoor_7 rfl (lv_at hl 2 rfl) ?_
    refine gc_SR (As := [.int (iI x2)]) F hK hA hP hS gPnil (c_X3_noRoom l D cy x2 _ h) (cwS 1 F.2.2.2.2 (gG_S k375 k376 k61 k377) rfl rfl rfl hd_X3_noRoom ⟨Nat.le_of_ble_eq_true rfl, Nat.le_of_ble_eq_true rfl⟩) dX3_performDoor_8 rfl rfl hl.1 (Nat.le_of_ble_eq_true rfl) ⟨Nat.le_of_ble_eq_true rfl, Nat.le_of_ble_eq_true rfl⟩ (fun u3 H locs h hP hS => ?_)
    obtain ⟨bu3, h⟩ := h
    refine gv_if_ne (tgt := 19) F (gRb bu3) dX3_performDoor_11 (by decide) (fun c4 => ?_) (fun c4 => ?_)
    · have h := h.1 c4
      refine gv_iconst F dX3_performDoor_19 ?_
      exact ret 0 N H locs 20 ls ⟨Or.inl rfl, h⟩ rfl hP hD hS dX3_performDoor_20
    · have h := h.2 c4
      refine lv_iload_n F.1 F.2.1 dX3_performDoor_14 rfl (lv_at hl 1 rfl) ?_
      refine lv_iload_n F.1 F.2.1 dX3_performDoor_15 rfl (lv_at hl 2 rfl) ?_
      obtain ⟨g5, h⟩ := h
      obtain ⟨g6, h⟩ := h
      refine gv_icmp_ne (tgt := 21) F g5 g6 dX3_performDoor_16 (by decide) (fun c7 => ?_) (fun c7 => ?_)
      · have h := h.1 c7
        refine lv_aload_n F.1 F.2.1 dX3_performDoor_21 rfl (lv_at hl 0 rfl) ?_
        refine gv_get F hin3 hK hP 0 rfl rfl 0 (by decide) k188 rfl dX3_performDoor_22 ?_
        refine gv_get F hin1 hK (cp_gh_N hP) 0 rfl rfl 0 (by decide) k117 rfl dX3_performDoor_25 ?_
        refine lv_iload_n F.1 F.2.1 dX3_performDoor_28 rfl (lv_at hl 1 rfl) ?_
        refine lv_iload_n F.1 F.2.1 dX3_performDoor_29 rfl (lv_at hl 2 rfl) ?_
        refine gc_VV (As := [.int (iI x1), .int (iI x2)]) (wn := fun u : AR × AR => wGh cy aO aL aN aT aK aI o rw rf lg sg (uc (uc N 2 u.1) 3 u.2) T K I) F hK hA hP hD hS (cp_gh_Nr hP) (cd_gh_Nr hD) (fun u H1 hk h1 _ => cj_gh_Nr hP hD u.1 u.2 H1 hk h1) (c_X2_turn l D cy (fun k => aN (k + 1)) (N 2) (N 3) x1 x2 _ h) (cwV 2 F.2.2.2.2 (gG_V k378 k379 k380 k63 k381) rfl rfl rfl hd_X2_turn ⟨Nat.le_of_ble_eq_true rfl, Nat.le_of_ble_eq_true rfl⟩) rfl rfl dX3_performDoor_30 rfl rfl hl.1 (Nat.le_of_ble_eq_true rfl) ⟨Nat.le_of_ble_eq_true rfl, Nat.le_of_ble_eq_true rfl⟩ (fun u H locs h hP hD hS => ?_)
        obtain ⟨z8, z9⟩ := u
        try dsimp only at h hP hD
        obtain ⟨z10, ez10⟩ : ∃ z : MS, z = (uc (uc N 2 z8) 3 z9) := ⟨_, rfl⟩
        have h := h z10 ez10
        rw [← ez10] at hP hD
        refine gv_iconst F dX3_performDoor_33 ?_
        exact ret 1 z10 H locs 34 ls ⟨Or.inr rfl, h⟩ rfl hP hD hS dX3_performDoor_34
      · have h := h.2 c7
        refine gv_iconst F dX3_performDoor_19 ?_
        exact ret 0 N H locs 20 ls ⟨Or.inl rfl, h⟩ rfl hP hD hS dX3_performDoor_20
abbrev rX3_performQuestion : Room := { frames := 1, cells := 0, slots := 0, locals := 24 }
set_option maxHeartbeats 4000000 in
set_option maxRecDepth 20000 in
theorem c_X3_performQuestion (l : Launch) (D : va_G) (cy : ClassId) (aO : Nat → Nat) (aL : Nat → Nat) (aN : Nat → Nat) (aT : Nat → Nat) (aK : Nat → Nat) (aI : Nat → Nat) (o : AR) (rw : AR) (rf : AR) (lg : AR) (sg : AR) (N : MS) (T : MS) (K : MS) (I : MS) (x1 x2 x3 x4 : Int) (Q : Int → MS → Prop) (h : wX3_performQuestion N x1 x2 x3 x4 Q) : MetI l yX3_performQuestion (wT yX3_performQuestion cX3_performQuestion 5 (some .boolean)) rX3_performQuestion D cy [.ref (aO 0), .int (iI x1), .int (iI x2), .int (iI x3), .int (iI x4)] (wGh cy aO aL aN aT aK aI o rw rf lg sg N T K I) (fun u : MS => wGh cy aO aL aN aT aK aI o rw rf lg sg u T K I) (fun r u => (r = 0 ∨ r = 1) ∧ Q r u) := by
  refine gI_I (by decide) (Nat.le_of_ble_eq_true rfl) ?_
  intro p e s m args below meth c A Qg F hK hA ret H locs ls hl hP hD hS
  have F : CallFix p m c cX3_performQuestion 5 s args gT RX3 := F
  have hl : lv_has ls 5 [(0, .ref (aO 0)), (1, .int (iI x1)), (2, .int (iI x2)), (3, .int (iI x3)), (4, .int (iI x4))] := hl
  refine lv_iload_n F.1 F.2.1 dX3_performQuestion_0 rfl (lv_at hl 3 rfl) ?_
  refine gc_SR (As := [.int (iI x3)]) F hK hA hP hS gPnil (c_X3_noRoom l D cy x3 _ h) (cwS 1 F.2.2.2.2 (gG_S k375 k376 k61 k377) rfl rfl rfl hd_X3_noRoom ⟨Nat.le_of_ble_eq_true rfl, Nat.le_of_ble_eq_true rfl⟩) dX3_performQuestion_1 rfl rfl hl.1 (Nat.le_of_ble_eq_true rfl) ⟨Nat.le_of_ble_eq_true rfl, Nat.le_of_ble_eq_true rfl⟩ (fun u1 H locs h hP hS => ?_)
  obtain ⟨bu1, h⟩ := h
  refine gv_if_ne (tgt := 19) F (gRb bu1) dX3_performQuestion_4 (by decide) (fun c2 => ?_) (fun c2 => ?_)
  · have h := h.1 c2
    refine gv_iconst F dX3_performQuestion_19 ?_
    exact ret 0 N H locs 20 ls ⟨Or.inl rfl, h⟩ rfl hP hD hS dX3_performQuestion_20
  · have h := h.2 c2
    refine lv_aload_n F.1 F.2.1 dX3_performQuestion_7 rfl (lv_at hl 0 rfl) ?_
    refine gv_get F hin3 hK hP 0 rfl rfl 0 (by decide) k188 rfl dX3_performQuestion_8 ?_
    refine gv_get F hin1 hK (cp_gh_N hP) 0 rfl rfl 2 (by decide) k121 rfl dX3_performQuestion_11 ?_
    refine gv_bipush F ⟨by decide, by decide⟩ dX3_performQuestion_14 ?_
    obtain ⟨g3, h⟩ := h
    refine gv_icmp_lt (tgt := 21) F g3 ⟨by decide, by decide⟩ dX3_performQuestion_16 (by decide) (fun c4 => ?_) (fun c4 => ?_)
    · have h := h.1 c4
      refine lv_aload_n F.1 F.2.1 dX3_performQuestion_21 rfl (lv_at hl 0 rfl) ?_
      refine gv_get F hin3 hK hP 0 rfl rfl 0 (by decide) k188 rfl dX3_performQuestion_22 ?_
      refine lv_iload_n F.1 F.2.1 dX3_performQuestion_25 rfl (lv_at hl 1 rfl) ?_
      refine lv_iload_n F.1 F.2.1 dX3_performQuestion_26 rfl (lv_at hl 2 rfl) ?_
      refine lv_iload_n F.1 F.2.1 dX3_performQuestion_27 rfl (lv_at hl 3 rfl) ?_
      refine lv_iload F.1 F.2.1 dX3_performQuestion_28 (lv_at hl 4 rfl) ?_
      refine gc_VV (As := [.int (iI x1), .int (iI x2), .int (iI x3), .int (iI x4)]) (wn := fun u : MS => wGh cy aO aL aN aT aK aI o rw rf lg sg u T K I) F hK hA hP hD hS (cp_gh_N hP) (cd_gh_N hD) (fun u H1 hk h1 _ => cj_gh_N hP hD u H1 hk h1) (c_X1_addQuestion l D cy aN N x1 x2 x3 x4 _ h) (cwV 4 F.2.2.2.2 (gG_V k391 k392 k393 k62 k394) rfl rfl rfl hd_X1_addQuestion ⟨Nat.le_of_ble_eq_true rfl, Nat.le_of_ble_eq_true rfl⟩) rfl rfl dX3_performQuestion_30 rfl rfl hl.1 (Nat.le_of_ble_eq_true rfl) ⟨Nat.le_of_ble_eq_true rfl, Nat.le_of_ble_eq_true rfl⟩ (fun z5 H locs h hP hD hS => ?_)
      try dsimp only at h hP hD
      refine gv_iconst F dX3_performQuestion_33 ?_
      exact ret 1 z5 H locs 34 ls ⟨Or.inr rfl, h⟩ rfl hP hD hS dX3_performQuestion_34
    · have h := h.2 c4
      refine gv_iconst F dX3_performQuestion_19 ?_
      exact ret 0 N H locs 20 ls ⟨Or.inl rfl, h⟩ rfl hP hD hS dX3_performQuestion_20
abbrev rX3_performGroup : Room := { frames := 1, cells := 0, slots := 0, locals := 23 }
set_option maxHeartbeats 4000000 in
set_option maxRecDepth 20000 in
theorem c_X3_performGroup (l : Launch) (D : va_G) (cy : ClassId) (aO : Nat → Nat) (aL : Nat → Nat) (aN : Nat → Nat) (aT : Nat → Nat) (aK : Nat → Nat) (aI : Nat → Nat) (o : AR) (rw : AR) (rf : AR) (lg : AR) (sg : AR) (N : MS) (T : MS) (K : MS) (I : MS) (x1 x2 x3 : Int) (Q : Int → MS → Prop) (h : wX3_performGroup N x1 x2 x3 Q) : MetI l yX3_performGroup (wT yX3_performGroup cX3_performGroup 4 (some .boolean)) rX3_performGroup D cy [.ref (aO 0), .int (iI x1), .int (iI x2), .int (iI x3)] (wGh cy aO aL aN aT aK aI o rw rf lg sg N T K I) (fun u : MS => wGh cy aO aL aN aT aK aI o rw rf lg sg u T K I) (fun r u => (r = 0 ∨ r = 1) ∧ Q r u) := by
  refine gI_I (by decide) (Nat.le_of_ble_eq_true rfl) ?_
  intro p e s m args below meth c A Qg F hK hA ret H locs ls hl hP hD hS
  have F : CallFix p m c cX3_performGroup 4 s args gT RX3 := F
  have hl : lv_has ls 4 [(0, .ref (aO 0)), (1, .int (iI x1)), (2, .int (iI x2)), (3, .int (iI x3))] := hl
  refine lv_iload_n F.1 F.2.1 dX3_performGroup_0 rfl (lv_at hl 3 rfl) ?_
  refine gv_bipush F ⟨by decide, by decide⟩ dX3_performGroup_1 ?_
  obtain ⟨g1, h⟩ := h
  refine gv_icmp_ge (tgt := 17) F g1 ⟨by decide, by decide⟩ dX3_performGroup_3 (by decide) (fun c2 => ?_) (fun c2 => ?_)
  · have h := h.1 c2
    refine gv_iconst F dX3_performGroup_17 ?_
    exact ret 0 N H locs 18 ls ⟨Or.inl rfl, h⟩ rfl hP hD hS dX3_performGroup_18
  · have h := h.2 c2
    refine lv_aload_n F.1 F.2.1 dX3_performGroup_6 rfl (lv_at hl 0 rfl) ?_
    refine gv_get F hin3 hK hP 0 rfl rfl 0 (by decide) k188 rfl dX3_performGroup_7 ?_
    refine gv_get F hin1 hK (cp_gh_N hP) 0 rfl rfl 7 (by decide) k131 rfl dX3_performGroup_10 ?_
    refine gv_iconst F dX3_performGroup_13 ?_
    obtain ⟨g3, h⟩ := h
    refine gv_icmp_lt (tgt := 19) F g3 ⟨by decide, by decide⟩ dX3_performGroup_14 (by decide) (fun c4 => ?_) (fun c4 => ?_)
    · have h := h.1 c4
      refine lv_aload_n F.1 F.2.1 dX3_performGroup_19 rfl (lv_at hl 0 rfl) ?_
      refine gv_get F hin3 hK hP 0 rfl rfl 0 (by decide) k188 rfl dX3_performGroup_20 ?_
      refine lv_iload_n F.1 F.2.1 dX3_performGroup_23 rfl (lv_at hl 1 rfl) ?_
      refine lv_iload_n F.1 F.2.1 dX3_performGroup_24 rfl (lv_at hl 2 rfl) ?_
      refine lv_iload_n F.1 F.2.1 dX3_performGroup_25 rfl (lv_at hl 3 rfl) ?_
      refine gc_VV (As := [.int (iI x1), .int (iI x2), .int (iI x3)]) (wn := fun u : MS => wGh cy aO aL aN aT aK aI o rw rf lg sg u T K I) F hK hA hP hD hS (cp_gh_N hP) (cd_gh_N hD) (fun u H1 hk h1 _ => cj_gh_N hP hD u H1 hk h1) (c_X1_addGroup l D cy aN N x1 x2 x3 _ h) (cwV 3 F.2.2.2.2 (gG_V k399 k400 k401 k62 k402) rfl rfl rfl hd_X1_addGroup ⟨Nat.le_of_ble_eq_true rfl, Nat.le_of_ble_eq_true rfl⟩) rfl rfl dX3_performGroup_26 rfl rfl hl.1 (Nat.le_of_ble_eq_true rfl) ⟨Nat.le_of_ble_eq_true rfl, Nat.le_of_ble_eq_true rfl⟩ (fun z5 H locs h hP hD hS => ?_)
      try dsimp only at h hP hD
      refine gv_iconst F dX3_performGroup_29 ?_
      exact ret 1 z5 H locs 30 ls ⟨Or.inr rfl, h⟩ rfl hP hD hS dX3_performGroup_30
    · have h := h.2 c4
      refine gv_iconst F dX3_performGroup_17 ?_
      exact ret 0 N H locs 18 ls ⟨Or.inl rfl, h⟩ rfl hP hD hS dX3_performGroup_18
abbrev rX3_performPlace : Room := { frames := 1, cells := 0, slots := 0, locals := 22 }
set_option maxHeartbeats 4000000 in
set_option maxRecDepth 20000 in
theorem c_X3_performPlace (l : Launch) (D : va_G) (cy : ClassId) (aO : Nat → Nat) (aL : Nat → Nat) (aN : Nat → Nat) (aT : Nat → Nat) (aK : Nat → Nat) (aI : Nat → Nat) (o : AR) (rw : AR) (rf : AR) (lg : AR) (sg : AR) (N : MS) (T : MS) (K : MS) (I : MS) (x1 x2 : Int) (Q : Int → MS → Prop) (h : wX3_performPlace N x1 x2 Q) : MetI l yX3_performPlace (wT yX3_performPlace cX3_performPlace 3 (some .boolean)) rX3_performPlace D cy [.ref (aO 0), .int (iI x1), .int (iI x2)] (wGh cy aO aL aN aT aK aI o rw rf lg sg N T K I) (fun u : MS => wGh cy aO aL aN aT aK aI o rw rf lg sg u T K I) (fun r u => (r = 0 ∨ r = 1) ∧ Q r u) := by
  refine gI_I (by decide) (Nat.le_of_ble_eq_true rfl) ?_
  intro p e s m args below meth c A Qg F hK hA ret H locs ls hl hP hD hS
  have F : CallFix p m c cX3_performPlace 3 s args gT RX3 := F
  have hl : lv_has ls 3 [(0, .ref (aO 0)), (1, .int (iI x1)), (2, .int (iI x2))] := hl
  refine lv_aload_n F.1 F.2.1 dX3_performPlace_0 rfl (lv_at hl 0 rfl) ?_
  refine lv_iload_n F.1 F.2.1 dX3_performPlace_1 rfl (lv_at hl 1 rfl) ?_
  refine gc_VR (As := [.int (iI x1)]) F hK hA hP hS hP (c_X3_noGroup l D cy aO aL aN aT aK aI o rw rf lg sg N T K I x1 _ h) (cwV 1 F.2.2.2.2 (gG_V k407 k409 k10 k61 k410) rfl rfl rfl hd_X3_noGroup ⟨Nat.le_of_ble_eq_true rfl, Nat.le_of_ble_eq_true rfl⟩) rfl rfl dX3_performPlace_2 rfl rfl hl.1 (Nat.le_of_ble_eq_true rfl) ⟨Nat.le_of_ble_eq_true rfl, Nat.le_of_ble_eq_true rfl⟩ (fun u1 H locs h hP hS => ?_)
  obtain ⟨bu1, h⟩ := h
  refine gv_if_ne (tgt := 15) F (gRb bu1) dX3_performPlace_5 (by decide) (fun c2 => ?_) (fun c2 => ?_)
  · have h := h.1 c2
    refine gv_iconst F dX3_performPlace_15 ?_
    exact ret 0 N H locs 16 ls ⟨Or.inl rfl, h⟩ rfl hP hD hS dX3_performPlace_16
  · have h := h.2 c2
    refine lv_iload_n F.1 F.2.1 dX3_performPlace_8 rfl (lv_at hl 2 rfl) ?_
    refine gc_SR (As := [.int (iI x2)]) F hK hA hP hS gPnil (c_X3_noRoom l D cy x2 _ h) (cwS 1 F.2.2.2.2 (gG_S k375 k376 k61 k377) rfl rfl rfl hd_X3_noRoom ⟨Nat.le_of_ble_eq_true rfl, Nat.le_of_ble_eq_true rfl⟩) dX3_performPlace_9 rfl rfl hl.1 (Nat.le_of_ble_eq_true rfl) ⟨Nat.le_of_ble_eq_true rfl, Nat.le_of_ble_eq_true rfl⟩ (fun u3 H locs h hP hS => ?_)
    obtain ⟨bu3, h⟩ := h
    refine gv_if_eq (tgt := 17) F (gRb bu3) dX3_performPlace_12 (by decide) (fun c4 => ?_) (fun c4 => ?_)
    · have h := h.1 c4
      refine lv_aload_n F.1 F.2.1 dX3_performPlace_17 rfl (lv_at hl 0 rfl) ?_
      refine gv_get F hin3 hK hP 0 rfl rfl 0 (by decide) k188 rfl dX3_performPlace_18 ?_
      refine lv_iload_n F.1 F.2.1 dX3_performPlace_21 rfl (lv_at hl 1 rfl) ?_
      refine lv_iload_n F.1 F.2.1 dX3_performPlace_22 rfl (lv_at hl 2 rfl) ?_
      refine gc_VV (As := [.int (iI x1), .int (iI x2)]) (wn := fun u : MS => wGh cy aO aL aN aT aK aI o rw rf lg sg u T K I) F hK hA hP hD hS (cp_gh_N hP) (cd_gh_N hD) (fun u H1 hk h1 _ => cj_gh_N hP hD u H1 hk h1) (c_X1_place l D cy aN N x1 x2 _ h) (cwV 2 F.2.2.2.2 (gG_V k411 k412 k413 k62 k414) rfl rfl rfl hd_X1_place ⟨Nat.le_of_ble_eq_true rfl, Nat.le_of_ble_eq_true rfl⟩) rfl rfl dX3_performPlace_23 rfl rfl hl.1 (Nat.le_of_ble_eq_true rfl) ⟨Nat.le_of_ble_eq_true rfl, Nat.le_of_ble_eq_true rfl⟩ (fun z5 H locs h hP hD hS => ?_)
      try dsimp only at h hP hD
      refine gv_iconst F dX3_performPlace_26 ?_
      exact ret 1 z5 H locs 27 ls ⟨Or.inr rfl, h⟩ rfl hP hD hS dX3_performPlace_27
    · have h := h.2 c4
      refine gv_iconst F dX3_performPlace_15 ?_
      exact ret 0 N H locs 16 ls ⟨Or.inl rfl, h⟩ rfl hP hD hS dX3_performPlace_16
abbrev rX3_performAnswer : Room := { frames := 1, cells := 0, slots := 0, locals := 23 }
set_option maxHeartbeats 4000000 in
set_option maxRecDepth 20000 in
theorem c_X3_performAnswer (l : Launch) (D : va_G) (cy : ClassId) (aO : Nat → Nat) (aL : Nat → Nat) (aN : Nat → Nat) (aT : Nat → Nat) (aK : Nat → Nat) (aI : Nat → Nat) (o : AR) (rw : AR) (rf : AR) (lg : AR) (sg : AR) (N : MS) (T : MS) (K : MS) (I : MS) (x1 x2 x3 : Int) (Q : Int → MS → Prop) (h : wX3_performAnswer N x1 x2 x3 Q) : MetI l yX3_performAnswer (wT yX3_performAnswer cX3_performAnswer 4 (some .boolean)) rX3_performAnswer D cy [.ref (aO 0), .int (iI x1), .int (iI x2), .int (iI x3)] (wGh cy aO aL aN aT aK aI o rw rf lg sg N T K I) (fun u : MS => wGh cy aO aL aN aT aK aI o rw rf lg sg u T K I) (fun r u => (r = 0 ∨ r = 1) ∧ Q r u) := by
  refine gI_I (by decide) (Nat.le_of_ble_eq_true rfl) ?_
  intro p e s m args below meth c A Qg F hK hA ret H locs ls hl hP hD hS
  have F : CallFix p m c cX3_performAnswer 4 s args gT RX3 := F
  have hl : lv_has ls 4 [(0, .ref (aO 0)), (1, .int (iI x1)), (2, .int (iI x2)), (3, .int (iI x3))] := hl
  refine lv_aload_n F.1 F.2.1 dX3_performAnswer_0 rfl (lv_at hl 0 rfl) ?_
  refine lv_iload_n F.1 F.2.1 dX3_performAnswer_1 rfl (lv_at hl 1 rfl) ?_
  refine gc_VR (As := [.int (iI x1)]) F hK hA hP hS hP (c_X3_noGroup l D cy aO aL aN aT aK aI o rw rf lg sg N T K I x1 _ h) (cwV 1 F.2.2.2.2 (gG_V k407 k409 k10 k61 k410) rfl rfl rfl hd_X3_noGroup ⟨Nat.le_of_ble_eq_true rfl, Nat.le_of_ble_eq_true rfl⟩) rfl rfl dX3_performAnswer_2 rfl rfl hl.1 (Nat.le_of_ble_eq_true rfl) ⟨Nat.le_of_ble_eq_true rfl, Nat.le_of_ble_eq_true rfl⟩ (fun u1 H locs h hP hS => ?_)
  obtain ⟨bu1, h⟩ := h
  refine gv_if_ne (tgt := 16) F (gRb bu1) dX3_performAnswer_5 (by decide) (fun c2 => ?_) (fun c2 => ?_)
  · have h := h.1 c2
    refine gv_iconst F dX3_performAnswer_16 ?_
    exact ret 0 N H locs 17 ls ⟨Or.inl rfl, h⟩ rfl hP hD hS dX3_performAnswer_17
  · have h := h.2 c2
    refine lv_aload_n F.1 F.2.1 dX3_performAnswer_8 rfl (lv_at hl 0 rfl) ?_
    refine lv_iload_n F.1 F.2.1 dX3_performAnswer_9 rfl (lv_at hl 2 rfl) ?_
    refine gc_VR (As := [.int (iI x2)]) F hK hA hP hS hP (c_X3_noQuestion l D cy aO aL aN aT aK aI o rw rf lg sg N T K I x2 _ h) (cwV 1 F.2.2.2.2 (gG_V k419 k421 k12 k61 k422) rfl rfl rfl hd_X3_noQuestion ⟨Nat.le_of_ble_eq_true rfl, Nat.le_of_ble_eq_true rfl⟩) rfl rfl dX3_performAnswer_10 rfl rfl hl.1 (Nat.le_of_ble_eq_true rfl) ⟨Nat.le_of_ble_eq_true rfl, Nat.le_of_ble_eq_true rfl⟩ (fun u3 H locs h hP hS => ?_)
    obtain ⟨bu3, h⟩ := h
    refine gv_if_eq (tgt := 18) F (gRb bu3) dX3_performAnswer_13 (by decide) (fun c4 => ?_) (fun c4 => ?_)
    · have h := h.1 c4
      refine lv_aload_n F.1 F.2.1 dX3_performAnswer_18 rfl (lv_at hl 0 rfl) ?_
      refine gv_get F hin3 hK hP 0 rfl rfl 0 (by decide) k188 rfl dX3_performAnswer_19 ?_
      refine lv_iload_n F.1 F.2.1 dX3_performAnswer_22 rfl (lv_at hl 1 rfl) ?_
      refine lv_iload_n F.1 F.2.1 dX3_performAnswer_23 rfl (lv_at hl 2 rfl) ?_
      refine lv_iload_n F.1 F.2.1 dX3_performAnswer_24 rfl (lv_at hl 3 rfl) ?_
      refine gc_VV (As := [.int (iI x1), .int (iI x2), .int (iI x3)]) (wn := fun u : MS => wGh cy aO aL aN aT aK aI o rw rf lg sg u T K I) F hK hA hP hD hS (cp_gh_N hP) (cd_gh_N hD) (fun u H1 hk h1 _ => cj_gh_N hP hD u H1 hk h1) (c_X1_fill l D cy aN N x1 x2 x3 _ h) (cwV 3 F.2.2.2.2 (gG_V k423 k424 k425 k62 k426) rfl rfl rfl hd_X1_fill ⟨Nat.le_of_ble_eq_true rfl, Nat.le_of_ble_eq_true rfl⟩) rfl rfl dX3_performAnswer_25 rfl rfl hl.1 (Nat.le_of_ble_eq_true rfl) ⟨Nat.le_of_ble_eq_true rfl, Nat.le_of_ble_eq_true rfl⟩ (fun z5 H locs h hP hD hS => ?_)
      try dsimp only at h hP hD
      refine gv_iconst F dX3_performAnswer_28 ?_
      exact ret 1 z5 H locs 29 ls ⟨Or.inr rfl, h⟩ rfl hP hD hS dX3_performAnswer_29
    · have h := h.2 c4
      refine gv_iconst F dX3_performAnswer_16 ?_
      exact ret 0 N H locs 17 ls ⟨Or.inl rfl, h⟩ rfl hP hD hS dX3_performAnswer_17
abbrev rX3_performMinutes : Room := { frames := 4, cells := 0, slots := 0, locals := 91 }
set_option maxHeartbeats 4000000 in
set_option maxRecDepth 20000 in
theorem c_X3_performMinutes (l : Launch) (D : va_G) (cy : ClassId) (aO : Nat → Nat) (aL : Nat → Nat) (aN : Nat → Nat) (aT : Nat → Nat) (aK : Nat → Nat) (aI : Nat → Nat) (o : AR) (rw : AR) (rf : AR) (lg : AR) (sg : AR) (N : MS) (T : MS) (K : MS) (I : MS) (x1 : Int) (Q : Int → MS → Prop) (h : wX3_performMinutes N x1 Q) : MetI l yX3_performMinutes (wT yX3_performMinutes cX3_performMinutes 2 (some .boolean)) rX3_performMinutes D cy [.ref (aO 0), .int (iI x1)] (wGh cy aO aL aN aT aK aI o rw rf lg sg N T K I) (fun u : MS => wGh cy aO aL aN aT aK aI o rw rf lg sg u T K I) (fun r u => (r = 0 ∨ r = 1) ∧ Q r u) := by
  refine gI_I (by decide) (Nat.le_of_ble_eq_true rfl) ?_
  intro p e s m args below meth c A Qg F hK hA ret H locs ls hl hP hD hS
  have F : CallFix p m c cX3_performMinutes 2 s args gT RX3 := F
  have hl : lv_has ls 2 [(0, .ref (aO 0)), (1, .int (iI x1))] := hl
  refine lv_iload_n F.1 F.2.1 dX3_performMinutes_0 rfl (lv_at hl 1 rfl) ?_
  refine gv_iconst F dX3_performMinutes_1 ?_
  obtain ⟨g1, h⟩ := h
  refine gv_icmp_lt (tgt := 26) F g1 ⟨by decide, by decide⟩ dX3_performMinutes_2 (by decide) (fun c2 => ?_) (fun c2 => ?_)
  · have h := h.1 c2
    refine gv_iconst F dX3_performMinutes_26 ?_
    exact ret 0 N H locs 27 ls ⟨Or.inl rfl, h⟩ rfl hP hD hS dX3_performMinutes_27
  · have h := h.2 c2
    refine lv_iload_n F.1 F.2.1 dX3_performMinutes_5 rfl (lv_at hl 1 rfl) ?_
    refine gv_bipush F ⟨by decide, by decide⟩ dX3_performMinutes_6 ?_
    refine gv_icmp_gt (tgt := 26) F g1 ⟨by decide, by decide⟩ dX3_performMinutes_8 (by decide) (fun c3 => ?_) (fun c3 => ?_)
    · have h := h.1 c3
      refine gv_iconst F dX3_performMinutes_26 ?_
      exact ret 0 N H locs 27 ls ⟨Or.inl rfl, h⟩ rfl hP hD hS dX3_performMinutes_27
    · have h := h.2 c3
      refine lv_aload_n F.1 F.2.1 dX3_performMinutes_11 rfl (lv_at hl 0 rfl) ?_
      refine gv_get F hin3 hK hP 0 rfl rfl 0 (by decide) k188 rfl dX3_performMinutes_12 ?_
      refine gv_get F hin1 hK (cp_gh_N hP) 0 rfl rfl 1 (by decide) k119 rfl dX3_performMinutes_15 ?_
      refine lv_iload_n F.1 F.2.1 dX3_performMinutes_18 rfl (lv_at hl 1 rfl) ?_
      refine gv_iadd F dX3_performMinutes_19 ?_
      refine gv_sipush F ⟨by decide, by decide⟩ dX3_performMinutes_20 ?_
      obtain ⟨g4, h⟩ := h
      refine gv_icmp_le (tgt := 28) F g4 ⟨by decide, by decide⟩ dX3_performMinutes_23 (by decide) (fun c5 => ?_) (fun c5 => ?_)
      · have h := h.1 c5
        refine lv_aload_n F.1 F.2.1 dX3_performMinutes_28 rfl (lv_at hl 0 rfl) ?_
        refine gv_get F hin3 hK hP 0 rfl rfl 0 (by decide) k188 rfl dX3_performMinutes_29 ?_
        refine lv_iload_n F.1 F.2.1 dX3_performMinutes_32 rfl (lv_at hl 1 rfl) ?_
        refine gc_VV (As := [.int (iI x1)]) (wn := fun u : MS => wGh cy aO aL aN aT aK aI o rw rf lg sg u T K I) F hK hA hP hD hS (cp_gh_N hP) (cd_gh_N hD) (fun u H1 hk h1 _ => cj_gh_N hP hD u H1 hk h1) (c_X1_passMinutes l D cy aN N x1 _ h) (cwV 1 F.2.2.2.2 (gG_V k431 k432 k433 k62 k434) rfl rfl rfl hd_X1_passMinutes ⟨Nat.le_of_ble_eq_true rfl, Nat.le_of_ble_eq_true rfl⟩) rfl rfl dX3_performMinutes_33 rfl rfl hl.1 (Nat.le_of_ble_eq_true rfl) ⟨Nat.le_of_ble_eq_true rfl, Nat.le_of_ble_eq_true rfl⟩ (fun z6 H locs h hP hD hS => ?_)
        try dsimp only at h hP hD
        refine gv_iconst F dX3_performMinutes_36 ?_
        exact ret 1 z6 H locs 37 ls ⟨Or.inr rfl, h⟩ rfl hP hD hS dX3_performMinutes_37
      · have h := h.2 c5
        refine gv_iconst F dX3_performMinutes_26 ?_
        exact ret 0 N H locs 27 ls ⟨Or.inl rfl, h⟩ rfl hP hD hS dX3_performMinutes_27
