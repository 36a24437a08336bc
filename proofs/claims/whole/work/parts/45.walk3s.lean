abbrev rX3_perform : Room := { frames := 5, cells := 0, slots := 0, locals := 112 }
set_option maxHeartbeats 4000000 in
set_option maxRecDepth 20000 in
theorem c_X3_perform (l : Launch) (D : va_G) (cy : ClassId) (kS vS : Nat) (aO : Nat → Nat) (aL : Nat → Nat) (aN : Nat → Nat) (aT : Nat → Nat) (aK : Nat → Nat) (aI : Nat → Nat) (o : AR) (rw : AR) (rf : AR) (lg : AR) (sg : AR) (N : MS) (T : MS) (K : MS) (I : MS) (x1 : Int) (Q : Int → MS → Prop) (h : wX3_perform lg sg N x1 Q) : MetIs l yX3_perform (wT yX3_perform cX3_perform 5 (some .boolean)) rX3_perform D cy kS vS [.ref (aO 0), .int (iI x1)] (wGh cy aO aL aN aT aK aI o rw rf lg sg N T K I) (fun u : MS => wGh cy aO aL aN aT aK aI o rw rf lg sg u T K I) (fun r u => (r = 0 ∨ r = 1) ∧ Q r u) := by
  refine gI_Is (by decide) (Nat.le_of_ble_eq_true rfl) ?_
  intro p e s m args below meth c A Qg F hK hA hG ret H locs ls hl hP hD hS
  have F : CallFix p m c cX3_perform 5 s args gT RX3 := F
  have hl : lv_has ls 5 [(0, .ref (aO 0)), (1, .int (iI x1))] := hl
  refine lv_aload_n F.1 F.2.1 dX3_perform_0 rfl (lv_at hl 0 rfl) ?_
  refine gv_get F hin3 hK hP 0 rfl rfl 5 (by decide) k193 rfl dX3_perform_1 ?_
  refine lv_iload_n F.1 F.2.1 dX3_perform_4 rfl (lv_at hl 1 rfl) ?_
  refine gv_iconst F dX3_perform_5 ?_
  refine gv_iadd F dX3_perform_6 ?_
  refine gc_VR (As := [.int (iI (x1 + 1))]) F hK hA hP hS (cp_gh_L hP) (c_X0_digit l D cy aL lg sg (x1 + 1) _ h) (cwV 1 F.2.2.2.2 (gG_V k366 k367 k368 k66 k369) rfl rfl rfl hd_X0_digit ⟨Nat.le_of_ble_eq_true rfl, Nat.le_of_ble_eq_true rfl⟩) rfl rfl dX3_perform_7 rfl rfl hl.1 (Nat.le_of_ble_eq_true rfl) ⟨Nat.le_of_ble_eq_true rfl, Nat.le_of_ble_eq_true rfl⟩ (fun u1 H locs h hP hS => ?_)
  refine lv_istore_n (lv' := [(2, .int (iI u1)), (0, .ref (aO 0)), (1, .int (iI x1))]) F.1 F.2.1 dX3_perform_10 rfl hl (by decide) rfl (fun ls hl => ?_)
  refine lv_aload_n F.1 F.2.1 dX3_perform_11 rfl (lv_at hl 1 rfl) ?_
  refine gv_get F hin3 hK hP 0 rfl rfl 5 (by decide) k193 rfl dX3_perform_12 ?_
  refine lv_iload_n F.1 F.2.1 dX3_perform_15 rfl (lv_at hl 2 rfl) ?_
  refine gv_iconst F dX3_perform_16 ?_
  refine gv_iadd F dX3_perform_17 ?_
  refine gc_VR (As := [.int (iI (x1 + 2))]) F hK hA hP hS (cp_gh_L hP) (c_X0_digit l D cy aL lg sg (x1 + 2) _ h) (cwV 1 F.2.2.2.2 (gG_V k366 k367 k368 k66 k369) rfl rfl rfl hd_X0_digit ⟨Nat.le_of_ble_eq_true rfl, Nat.le_of_ble_eq_true rfl⟩) rfl rfl dX3_perform_18 rfl rfl hl.1 (Nat.le_of_ble_eq_true rfl) ⟨Nat.le_of_ble_eq_true rfl, Nat.le_of_ble_eq_true rfl⟩ (fun u2 H locs h hP hS => ?_)
  refine lv_istore_n (lv' := [(3, .int (iI u2)), (2, .int (iI u1)), (0, .ref (aO 0)), (1, .int (iI x1))]) F.1 F.2.1 dX3_perform_21 rfl hl (by decide) rfl (fun ls hl => ?_)
  refine lv_aload_n F.1 F.2.1 dX3_perform_22 rfl (lv_at hl 2 rfl) ?_
  refine gv_get F hin3 hK hP 0 rfl rfl 5 (by decide) k193 rfl dX3_perform_23 ?_
  refine lv_iload_n F.1 F.2.1 dX3_perform_26 rfl (lv_at hl 3 rfl) ?_
  refine gv_iconst F dX3_perform_27 ?_
  refine gv_iadd F dX3_perform_28 ?_
  refine gc_VR (As := [.int (iI (x1 + 3))]) F hK hA hP hS (cp_gh_L hP) (c_X0_digit l D cy aL lg sg (x1 + 3) _ h) (cwV 1 F.2.2.2.2 (gG_V k366 k367 k368 k66 k369) rfl rfl rfl hd_X0_digit ⟨Nat.le_of_ble_eq_true rfl, Nat.le_of_ble_eq_true rfl⟩) rfl rfl dX3_perform_29 rfl rfl hl.1 (Nat.le_of_ble_eq_true rfl) ⟨Nat.le_of_ble_eq_true rfl, Nat.le_of_ble_eq_true rfl⟩ (fun u3 H locs h hP hS => ?_)
  refine lv_istore (lv' := [(4, .int (iI u3)), (3, .int (iI u2)), (2, .int (iI u1)), (0, .ref (aO 0)), (1, .int (iI x1))]) F.1 F.2.1 dX3_perform_32 hl (by decide) rfl (fun ls hl => ?_)
  refine lv_aload_n F.1 F.2.1 dX3_perform_34 rfl (lv_at hl 3 rfl) ?_
  refine gv_get F hin3 hK hP 0 rfl rfl 5 (by decide) k193 rfl dX3_perform_35 ?_
  refine lv_iload_n F.1 F.2.1 dX3_perform_38 rfl (lv_at hl 4 rfl) ?_
  refine gc_VR (As := [.int (iI x1)]) F hK hA hP hS (cp_gh_L hP) (c_X0_at l D cy aL lg sg x1 _ h) (cwV 1 F.2.2.2.2 (gG_V k370 k245 k246 k66 k247) rfl rfl rfl hd_X0_at ⟨Nat.le_of_ble_eq_true rfl, Nat.le_of_ble_eq_true rfl⟩) rfl rfl dX3_perform_39 rfl rfl hl.1 (Nat.le_of_ble_eq_true rfl) ⟨Nat.le_of_ble_eq_true rfl, Nat.le_of_ble_eq_true rfl⟩ (fun u4 H locs h hP hS => ?_)
  obtain ⟨g5, h⟩ := h
  by_cases c6 : u4 = 97
  · have h := h.1 c6
    refine gv_lookup (tgt := 139) (off := 97) F g5 dX3_perform_42 (by decide) (by rw [c6]; rfl) (by decide) ?_
    refine lv_aload_n F.1 F.2.1 dX3_perform_139 rfl (lv_at hl 3 rfl) ?_
    refine lv_iload_n F.1 F.2.1 dX3_perform_140 rfl (lv_at hl 2 rfl) ?_
    refine lv_iload_n F.1 F.2.1 dX3_perform_141 rfl (lv_at hl 1 rfl) ?_
    refine gc_VI (As := [.int (iI u1), .int (iI u2)]) (wn := fun u : MS => wGh cy aO aL aN aT aK aI o rw rf lg sg u T K I) F hK hA hP hD hS hP hD (fun u H1 _ h1 h2 => ⟨h1, h2⟩) (c_X3_performPlace l D cy aO aL aN aT aK aI o rw rf lg sg N T K I u1 u2 _ h) (cwV 2 F.2.2.2.2 (gG_V k403 k405 k9 k61 k406) rfl rfl rfl hd_X3_performPlace ⟨Nat.le_of_ble_eq_true rfl, Nat.le_of_ble_eq_true rfl⟩) rfl rfl dX3_perform_142 rfl rfl hl.1 (Nat.le_of_ble_eq_true rfl) ⟨Nat.le_of_ble_eq_true rfl, Nat.le_of_ble_eq_true rfl⟩ (fun u8 z7 H locs h hP hD hS => ?_)
    try dsimp only at h hP hD
    obtain ⟨bu8, h⟩ := h
    exact ret u8 z7 H locs 145 ls ⟨bu8, h⟩ (gNb bu8) hP hD hS dX3_perform_145
  by_cases c9 : u4 = 100
  · have h := h.2.1 c9
    refine gv_lookup (tgt := 92) (off := 50) F g5 dX3_perform_42 (by decide) (by rw [c9]; rfl) (by decide) ?_
    refine lv_aload_n F.1 F.2.1 dX3_perform_92 rfl (lv_at hl 3 rfl) ?_
    refine lv_iload_n F.1 F.2.1 dX3_perform_93 rfl (lv_at hl 2 rfl) ?_
    refine lv_iload_n F.1 F.2.1 dX3_perform_94 rfl (lv_at hl 1 rfl) ?_
    refine gc_VI (As := [.int (iI u1), .int (iI u2)]) (wn := fun u : MS => wGh cy aO aL aN aT aK aI o rw rf lg sg u T K I) F hK hA hP hD hS hP hD (fun u H1 _ h1 h2 => ⟨h1, h2⟩) (c_X3_performDoor l D cy aO aL aN aT aK aI o rw rf lg sg N T K I u1 u2 _ h) (cwV 2 F.2.2.2.2 (gG_V k371 k373 k6 k61 k374) rfl rfl rfl hd_X3_performDoor ⟨Nat.le_of_ble_eq_true rfl, Nat.le_of_ble_eq_true rfl⟩) rfl rfl dX3_perform_95 rfl rfl hl.1 (Nat.le_of_ble_eq_true rfl) ⟨Nat.le_of_ble_eq_true rfl, Nat.le_of_ble_eq_true rfl⟩ (fun u11 z10 H locs h hP hD hS => ?_)
    try dsimp only at h hP hD
    obtain ⟨bu11, h⟩ := h
    exact ret u11 z10 H locs 98 ls ⟨bu11, h⟩ (gNb bu11) hP hD hS dX3_perform_98
  by_cases c12 : u4 = 103
  · have h := h.2.2.1 c12
    refine gv_lookup (tgt := 130) (off := 88) F g5 dX3_perform_42 (by decide) (by rw [c12]; rfl) (by decide) ?_
    refine lv_aload_n F.1 F.2.1 dX3_perform_130 rfl (lv_at hl 3 rfl) ?_
    refine lv_iload_n F.1 F.2.1 dX3_perform_131 rfl (lv_at hl 2 rfl) ?_
    refine lv_iload_n F.1 F.2.1 dX3_perform_132 rfl (lv_at hl 1 rfl) ?_
    refine lv_iload F.1 F.2.1 dX3_perform_133 (lv_at hl 0 rfl) ?_
    refine gc_VI (As := [.int (iI u1), .int (iI u2), .int (iI u3)]) (wn := fun u : MS => wGh cy aO aL aN aT aK aI o rw rf lg sg u T K I) F hK hA hP hD hS hP hD (fun u H1 _ h1 h2 => ⟨h1, h2⟩) (c_X3_performGroup l D cy aO aL aN aT aK aI o rw rf lg sg N T K I u1 u2 u3 _ h) (cwV 3 F.2.2.2.2 (gG_V k395 k397 k8 k61 k398) rfl rfl rfl hd_X3_performGroup ⟨Nat.le_of_ble_eq_true rfl, Nat.le_of_ble_eq_true rfl⟩) rfl rfl dX3_perform_135 rfl rfl hl.1 (Nat.le_of_ble_eq_true rfl) ⟨Nat.le_of_ble_eq_true rfl, Nat.le_of_ble_eq_true rfl⟩ (fun u14 z13 H locs h hP hD hS => ?_)
    try dsimp only at h hP hD
    obtain ⟨bu14, h⟩ := h
    exact ret u14 z13 H locs 138 ls ⟨bu14, h⟩ (gNb bu14) hP hD hS dX3_perform_138
  by_cases c15 : u4 = 113
  · have h := h.2.2.2.1 c15
    refine gv_lookup (tgt := 99) (off := 57) F g5 dX3_perform_42 (by decide) (by rw [c15]; rfl) (by decide) ?_
    refine lv_aload_n F.1 F.2.1 dX3_perform_99 rfl (lv_at hl 3 rfl) ?_
    refine lv_aload_n F.1 F.2.1 dX3_perform_100 rfl (lv_at hl 3 rfl) ?_
    refine gv_get F hin3 hK hP 0 rfl rfl 5 (by decide) k193 rfl dX3_perform_101 ?_
    refine lv_iload_n F.1 F.2.1 dX3_perform_104 rfl (lv_at hl 4 rfl) ?_
    refine gv_iconst F dX3_perform_105 ?_
    refine gv_iadd F dX3_perform_106 ?_
    refine gc_VR (As := [.int (iI (x1 + 1))]) F hK hA hP hS (cp_gh_L hP) (c_X0_at l D cy aL lg sg (x1 + 1) _ h) (cwV 1 F.2.2.2.2 (gG_V k370 k245 k246 k66 k247) rfl rfl rfl hd_X0_at ⟨Nat.le_of_ble_eq_true rfl, Nat.le_of_ble_eq_true rfl⟩) rfl rfl dX3_perform_107 rfl rfl hl.1 (Nat.le_of_ble_eq_true rfl) ⟨Nat.le_of_ble_eq_true rfl, Nat.le_of_ble_eq_true rfl⟩ (fun u16 H locs h hP hS => ?_)
    refine gcs_SR (As := [.int (iI u16)]) F hK hA hP hG hS gPnil (c_X0_kindOf l D cy kS vS u16 _ h) (va_cwS 1 F.2.2.2.2 (gG_T k386 k255 k66 k256) rfl rfl rfl hd_X0_kindOf.2 ⟨Nat.le_of_ble_eq_true rfl, Nat.le_of_ble_eq_true rfl⟩) dX3_perform_110 rfl rfl hl.1 (Nat.le_of_ble_eq_true rfl) ⟨Nat.le_of_ble_eq_true rfl, Nat.le_of_ble_eq_true rfl⟩ (fun u17 H locs h hP hS => ?_)
    refine lv_iload_n F.1 F.2.1 dX3_perform_113 rfl (lv_at hl 1 rfl) ?_
    refine lv_iload F.1 F.2.1 dX3_perform_114 (lv_at hl 0 rfl) ?_
    refine lv_aload_n F.1 F.2.1 dX3_perform_116 rfl (lv_at hl 3 rfl) ?_
    refine gv_get F hin3 hK hP 0 rfl rfl 5 (by decide) k193 rfl dX3_perform_117 ?_
    refine lv_iload_n F.1 F.2.1 dX3_perform_120 rfl (lv_at hl 4 rfl) ?_
    refine gv_iconst F dX3_perform_121 ?_
    refine gv_iadd F dX3_perform_122 ?_
    refine gc_VR (As := [.int (iI (x1 + 4))]) F hK hA hP hS (cp_gh_L hP) (c_X0_digit l D cy aL lg sg (x1 + 4) _ h) (cwV 1 F.2.2.2.2 (gG_V k366 k367 k368 k66 k369) rfl rfl rfl hd_X0_digit ⟨Nat.le_of_ble_eq_true rfl, Nat.le_of_ble_eq_true rfl⟩) rfl rfl dX3_perform_123 rfl rfl hl.1 (Nat.le_of_ble_eq_true rfl) ⟨Nat.le_of_ble_eq_true rfl, Nat.le_of_ble_eq_true rfl⟩ (fun u18 H locs h hP hS => ?_)
    refine gc_VI (As := [.int (iI u17), .int (iI u2), .int (iI u3), .int (iI u18)]) (wn := fun u : MS => wGh cy aO aL aN aT aK aI o rw rf lg sg u T K I) F hK hA hP hD hS hP hD (fun u H1 _ h1 h2 => ⟨h1, h2⟩) (c_X3_performQuestion l D cy aO aL aN aT aK aI o rw rf lg sg N T K I u17 u2 u3 u18 _ h) (cwV 4 F.2.2.2.2 (gG_V k387 k389 k7 k61 k390) rfl rfl rfl hd_X3_performQuestion ⟨Nat.le_of_ble_eq_true rfl, Nat.le_of_ble_eq_true rfl⟩) rfl rfl dX3_perform_126 rfl rfl hl.1 (Nat.le_of_ble_eq_true rfl) ⟨Nat.le_of_ble_eq_true rfl, Nat.le_of_ble_eq_true rfl⟩ (fun u20 z19 H locs h hP hD hS => ?_)
    try dsimp only at h hP hD
    obtain ⟨bu20, h⟩ := h
    exact ret u20 z19 H locs 129 ls ⟨bu20, h⟩ (gNb bu20) hP hD hS dX3_perform_129
  by_cases c21 : u4 = 119
  · have h := h.2.2.2.2.1 c21
    refine gv_lookup (tgt := 146) (off := 104) F g5 dX3_perform_42 (by decide) (by rw [c21]; rfl) (by decide) ?_
    refine lv_aload_n F.1 F.2.1 dX3_perform_146 rfl (lv_at hl 3 rfl) ?_
    refine lv_iload_n F.1 F.2.1 dX3_perform_147 rfl (lv_at hl 2 rfl) ?_
    refine lv_iload_n F.1 F.2.1 dX3_perform_148 rfl (lv_at hl 1 rfl) ?_
    refine lv_iload F.1 F.2.1 dX3_perform_149 (lv_at hl 0 rfl) ?_
    refine gc_VI (As := [.int (iI u1), .int (iI u2), .int (iI u3)]) (wn := fun u : MS => wGh cy aO aL aN aT aK aI o rw rf lg sg u T K I) F hK hA hP hD hS hP hD (fun u H1 _ h1 h2 => ⟨h1, h2⟩) (c_X3_performAnswer l D cy aO aL aN aT aK aI o rw rf lg sg N T K I u1 u2 u3 _ h) (cwV 3 F.2.2.2.2 (gG_V k415 k417 k11 k61 k418) rfl rfl rfl hd_X3_performAnswer ⟨Nat.le_of_ble_eq_true rfl, Nat.le_of_ble_eq_true rfl⟩) rfl rfl dX3_perform_151 rfl rfl hl.1 (Nat.le_of_ble_eq_true rfl) ⟨Nat.le_of_ble_eq_true rfl, Nat.le_of_ble_eq_true rfl⟩ (fun u23 z22 H locs h hP hD hS => ?_)
    try dsimp only at h hP hD
    obtain ⟨bu23, h⟩ := h
    exact ret u23 z22 H locs 154 ls ⟨bu23, h⟩ (gNb bu23) hP hD hS dX3_perform_154
  have cd : ¬ u4 = 97 ∧ ¬ u4 = 100 ∧ ¬ u4 = 103 ∧ ¬ u4 = 113 ∧ ¬ u4 = 119 := ⟨c6, c9, c12, c15, c21⟩
  have h := h.2.2.2.2.2 cd
  refine gv_lookup (tgt := 155) (off := 113) F g5 dX3_perform_42 (by decide) (by rw [Op.lookupswitch.offset_cons, if_neg (fun q => c6 q.symm)]; rw [Op.lookupswitch.offset_cons, if_neg (fun q => c9 q.symm)]; rw [Op.lookupswitch.offset_cons, if_neg (fun q => c12 q.symm)]; rw [Op.lookupswitch.offset_cons, if_neg (fun q => c15 q.symm)]; rw [Op.lookupswitch.offset_cons, if_neg (fun q => c21 q.symm)]; rfl) (by decide) ?_
  refine lv_aload_n F.1 F.2.1 dX3_perform_155 rfl (lv_at hl 3 rfl) ?_
  refine gv_bipush F ⟨by decide, by decide⟩ dX3_perform_156 ?_
  refine lv_iload_n F.1 F.2.1 dX3_perform_158 rfl (lv_at hl 2 rfl) ?_
  refine gv_imul F dX3_perform_159 ?_
  refine lv_iload_n F.1 F.2.1 dX3_perform_160 rfl (lv_at hl 1 rfl) ?_
  refine gv_iadd F dX3_perform_161 ?_
  refine gc_VI (As := [.int (iI ((10 * u1) + u2))]) (wn := fun u : MS => wGh cy aO aL aN aT aK aI o rw rf lg sg u T K I) F hK hA hP hD hS hP hD (fun u H1 _ h1 h2 => ⟨h1, h2⟩) (c_X3_performMinutes l D cy aO aL aN aT aK aI o rw rf lg sg N T K I ((10 * u1) + u2) _ h) (cwV 1 F.2.2.2.2 (gG_V k427 k429 k13 k61 k430) rfl rfl rfl hd_X3_performMinutes ⟨Nat.le_of_ble_eq_true rfl, Nat.le_of_ble_eq_true rfl⟩) rfl rfl dX3_perform_162 rfl rfl hl.1 (Nat.le_of_ble_eq_true rfl) ⟨Nat.le_of_ble_eq_true rfl, Nat.le_of_ble_eq_true rfl⟩ (fun u25 z24 H locs h hP hD hS => ?_)
  try dsimp only at h hP hD
  obtain ⟨bu25, h⟩ := h
  exact ret u25 z24 H locs 165 ls ⟨bu25, h⟩ (gNb bu25) hP hD hS dX3_perform_165
abbrev rX3_performAll : Room := { frames := 6, cells := 0, slots := 0, locals := 136 }
set_option maxHeartbeats 4000000 in
set_option maxRecDepth 20000 in
theorem c_X3_performAll (l : Launch) (D : va_G) (cy : ClassId) (kS vS : Nat) (aO : Nat → Nat) (aL : Nat → Nat) (aN : Nat → Nat) (aT : Nat → Nat) (aK : Nat → Nat) (aI : Nat → Nat) (o : AR) (rw : AR) (rf : AR) (lg : AR) (sg : AR) (N : MS) (T : MS) (K : MS) (I : MS) (Q : Int → MS → MS → Prop) (h : wX3_performAll lg sg N K Q) : MetIs l yX3_performAll (wT yX3_performAll cX3_performAll 3 (some .int)) rX3_performAll D cy kS vS [.ref (aO 0)] (wGh cy aO aL aN aT aK aI o rw rf lg sg N T K I) (fun u : MS × MS => wGh cy aO aL aN aT aK aI o rw rf lg sg u.1 T u.2 I) (fun r u => Q r u.1 u.2) := by
  refine gI_Is (by decide) (Nat.le_of_ble_eq_true rfl) ?_
  intro p e s m args below meth c A Qg F hK hA hG ret H locs ls hl hP hD hS
  have F : CallFix p m c cX3_performAll 3 s args gT RX3 := F
  have hl : lv_has ls 3 [(0, .ref (aO 0))] := hl
  have L15 : ∀ (n : Nat) (y1 : Int) (y2 : Int) (N : MS) (K : MS) (H : Heap) (locs : List Loc) (ls : Array Slot), wX3_performAll_15 lg sg Q n y1 y2 N K → va_P D vwCl (wGh cy aO aL aN aT aK aI o rw rf lg sg N T K I) H → va_D A (wGh cy aO aL aN aT aK aI o rw rf lg sg N T K I) → va_S A s.heap H locs → lv_has ls 3 [(0, .ref (aO 0)), (1, .int (iI y1)), (2, .int (iI y2))] → W p l e rX3_performAll s m args below meth c H locs 0 0 Qg (F0 m 15 ls []) := by
    intro  n
    induction n with
    | zero => intro _ _ _ _ _ _ _ h; exact h.elim
    | succ n ih =>
      intro y1 y2 N K H locs ls h hP hD hS hl
      rw [wX3_performAll_15_s] at h
      refine lv_iload_n F.1 F.2.1 dX3_performAll_15 rfl (lv_at hl 2 rfl) ?_
      refine lv_aload_n F.1 F.2.1 dX3_performAll_16 rfl (lv_at hl 0 rfl) ?_
      refine gv_get F hin3 hK hP 0 rfl rfl 5 (by decide) k193 rfl dX3_performAll_17 ?_
      refine gc_VR (As := []) F hK hA hP hS (cp_gh_L hP) (c_X0_length l D cy aL lg sg _ h) (cwV 0 F.2.2.2.2 (gG_V k358 k359 k360 k66 k361) rfl rfl rfl hd_X0_length ⟨Nat.le_of_ble_eq_true rfl, Nat.le_of_ble_eq_true rfl⟩) rfl rfl dX3_performAll_20 rfl rfl hl.1 (Nat.le_of_ble_eq_true rfl) ⟨Nat.le_of_ble_eq_true rfl, Nat.le_of_ble_eq_true rfl⟩ (fun u1 H locs h hP hS => ?_)
      obtain ⟨g2, h⟩ := h
      obtain ⟨g3, h⟩ := h
      refine gv_icmp_ge (tgt := 73) F g2 g3 dX3_performAll_23 (by decide) (fun c4 => ?_) (fun c4 => ?_)
      · have h := h.1 c4
        refine lv_iload_n F.1 F.2.1 dX3_performAll_73 rfl (lv_at hl 1 rfl) ?_
        exact ret y1 (N, K) H locs 74 ls h rfl hP hD hS dX3_performAll_74
      · have h := h.2 c4
        refine lv_aload_n F.1 F.2.1 dX3_performAll_26 rfl (lv_at hl 0 rfl) ?_
        refine lv_iload_n F.1 F.2.1 dX3_performAll_27 rfl (lv_at hl 2 rfl) ?_
        refine gcs_VI (As := [.int (iI y2)]) (wn := fun u : MS => wGh cy aO aL aN aT aK aI o rw rf lg sg u T K I) F hK hA hP hD hG hS hP hD (fun u H1 _ h1 h2 => ⟨h1, h2⟩) (c_X3_perform l D cy kS vS aO aL aN aT aK aI o rw rf lg sg N T K I y2 _ h) (cwV 1 F.2.2.2.2 (gG_V k362 k364 k5 k61 k365) rfl rfl rfl hd_X3_perform ⟨Nat.le_of_ble_eq_true rfl, Nat.le_of_ble_eq_true rfl⟩) rfl rfl dX3_performAll_28 rfl rfl hl.1 (Nat.le_of_ble_eq_true rfl) ⟨Nat.le_of_ble_eq_true rfl, Nat.le_of_ble_eq_true rfl⟩ (fun u6 z5 H locs h hP hD hS => ?_)
        try dsimp only at h hP hD
        obtain ⟨bu6, h⟩ := h
        refine gv_if_ne (tgt := 51) F (gRb bu6) dX3_performAll_31 (by decide) (fun c7 => ?_) (fun c7 => ?_)
        · have h := h.1 c7
          refine lv_iload_n F.1 F.2.1 dX3_performAll_51 rfl (lv_at hl 2 rfl) ?_
          refine lv_aload_n F.1 F.2.1 dX3_performAll_52 rfl (lv_at hl 0 rfl) ?_
          refine gv_get F hin3 hK hP 0 rfl rfl 5 (by decide) k193 rfl dX3_performAll_53 ?_
          refine lv_iload_n F.1 F.2.1 dX3_performAll_56 rfl (lv_at hl 2 rfl) ?_
          refine gc_VR (As := [.int (iI y2)]) F hK hA hP hS (cp_gh_L hP) (c_X0_at l D cy aL lg sg y2 _ h) (cwV 1 F.2.2.2.2 (gG_V k370 k245 k246 k66 k247) rfl rfl rfl hd_X0_at ⟨Nat.le_of_ble_eq_true rfl, Nat.le_of_ble_eq_true rfl⟩) rfl rfl dX3_performAll_57 rfl rfl hl.1 (Nat.le_of_ble_eq_true rfl) ⟨Nat.le_of_ble_eq_true rfl, Nat.le_of_ble_eq_true rfl⟩ (fun u8 H locs h hP hS => ?_)
          refine gc_SR (As := [.int (iI u8)]) F hK hA hP hS gPnil (c_X0_signsBehind l D cy u8 _ h) (va_cwS 1 F.2.2.2.2 (gG_T k473 k249 k66 k250) rfl rfl rfl hd_X0_signsBehind.2 ⟨Nat.le_of_ble_eq_true rfl, Nat.le_of_ble_eq_true rfl⟩) dX3_performAll_60 rfl rfl hl.1 (Nat.le_of_ble_eq_true rfl) ⟨Nat.le_of_ble_eq_true rfl, Nat.le_of_ble_eq_true rfl⟩ (fun u9 H locs h hP hS => ?_)
          refine gv_iconst F dX3_performAll_63 ?_
          refine gv_iadd F dX3_performAll_64 ?_
          refine gv_iadd F dX3_performAll_65 ?_
          refine gv_name (fun v10 ev10 => ?_)
          have h := h v10 ev10
          refine lv_istore_n (lv' := [(2, .int (iI v10)), (0, .ref (aO 0)), (1, .int (iI y1))]) F.1 F.2.1 dX3_performAll_66 rfl hl (by decide) rfl (fun ls hl => ?_)
          obtain ⟨v11, ev11⟩ : ∃ z : Int, z = y1 + 1 := ⟨_, rfl⟩
          have h := h v11 ev11
          refine gv_iinc (lv' := [(1, .int (iI v11)), (2, .int (iI v10)), (0, .ref (aO 0))]) F dX3_performAll_67 hl (k := 2) rfl ev11 (by decide) rfl (fun ls hl => ?_)
          refine lv_goto (tgt := 15) F.1 F.2.1 dX3_performAll_70 (by decide) ?_
          exact ih v11 v10 z5 K H locs ls h hP hD hS (lv_sub hl [2, 0, 1] rfl)
        · have h := h.2 c7
          refine lv_aload_n F.1 F.2.1 dX3_performAll_34 rfl (lv_at hl 0 rfl) ?_
          refine gv_get F hin3 hK hP 0 rfl rfl 0 (by decide) k188 rfl dX3_performAll_35 ?_
          refine lv_aload_n F.1 F.2.1 dX3_performAll_38 rfl (lv_at hl 0 rfl) ?_
          refine gv_get F hin3 hK hP 0 rfl rfl 2 (by decide) k190 rfl dX3_performAll_39 ?_
          refine gc_VV (As := [.ref (aK 0)]) (wn := fun u : MS => wGh cy aO aL aN aT aK aI o rw rf lg sg u T K I) F hK hA hP hD hS (cp_gh_NK hP) (cd_gh_NK hD) (fun u H1 hk h1 _ => cj_gh_NK hP hD u H1 hk h1) (c_MuBecome l D cy aN aK z5 K _ h) (cwV 1 F.2.2.2.2 (gG_V k346 k347 k348 k62 k349) rfl rfl rfl hd_X1_become ⟨Nat.le_of_ble_eq_true rfl, Nat.le_of_ble_eq_true rfl⟩) rfl rfl dX3_performAll_42 rfl rfl hl.1 (Nat.le_of_ble_eq_true rfl) ⟨Nat.le_of_ble_eq_true rfl, Nat.le_of_ble_eq_true rfl⟩ (fun z12 H locs h hP hD hS => ?_)
          try dsimp only at h hP hD
          refine gv_sipush F ⟨by decide, by decide⟩ dX3_performAll_45 ?_
          refine lv_iload_n F.1 F.2.1 dX3_performAll_48 rfl (lv_at hl 2 rfl) ?_
          refine gv_isub F dX3_performAll_49 ?_
          exact ret ((-2000) - y2) (z12, K) H locs 50 ls h rfl hP hD hS dX3_performAll_50
  refine lv_aload_n F.1 F.2.1 dX3_performAll_0 rfl (lv_at hl 0 rfl) ?_
  refine gv_get F hin3 hK hP 0 rfl rfl 2 (by decide) k190 rfl dX3_performAll_1 ?_
  refine lv_aload_n F.1 F.2.1 dX3_performAll_4 rfl (lv_at hl 0 rfl) ?_
  refine gv_get F hin3 hK hP 0 rfl rfl 0 (by decide) k188 rfl dX3_performAll_5 ?_
  refine gc_VV (As := [.ref (aN 0)]) (wn := fun u : MS => wGh cy aO aL aN aT aK aI o rw rf lg sg N T u I) F hK hA hP hD hS (cp_gh_KN hP) (cd_gh_KN hD) (fun u H1 hk h1 _ => cj_gh_KN hP hD u H1 hk h1) (c_MuBecome l D cy aK aN K N _ h) (cwV 1 F.2.2.2.2 (gG_V k346 k347 k348 k62 k349) rfl rfl rfl hd_X1_become ⟨Nat.le_of_ble_eq_true rfl, Nat.le_of_ble_eq_true rfl⟩) rfl rfl dX3_performAll_8 rfl rfl hl.1 (Nat.le_of_ble_eq_true rfl) ⟨Nat.le_of_ble_eq_true rfl, Nat.le_of_ble_eq_true rfl⟩ (fun z13 H locs h hP hD hS => ?_)
  try dsimp only at h hP hD
  refine gv_iconst F dX3_performAll_11 ?_
  refine lv_istore_n (lv' := [(1, .int (iI 0)), (0, .ref (aO 0))]) F.1 F.2.1 dX3_performAll_12 rfl hl (by decide) rfl (fun ls hl => ?_)
  refine gv_iconst F dX3_performAll_13 ?_
  refine lv_istore_n (lv' := [(2, .int (iI 0)), (1, .int (iI 0)), (0, .ref (aO 0))]) F.1 F.2.1 dX3_performAll_14 rfl hl (by decide) rfl (fun ls hl => ?_)
  obtain ⟨n14, h⟩ := h
  exact L15 n14 0 0 N z13 H locs ls h hP hD hS (lv_sub hl [2, 1, 0] rfl)
abbrev rX3_museum : Room := { frames := 8, cells := 0, slots := 0, locals := 180 }
set_option maxHeartbeats 4000000 in
set_option maxRecDepth 20000 in
theorem c_X3_museum (l : Launch) (D : va_G) (cy : ClassId) (kS vS : Nat) (aO : Nat → Nat) (aL : Nat → Nat) (aN : Nat → Nat) (aT : Nat → Nat) (aK : Nat → Nat) (aI : Nat → Nat) (o : AR) (rw : AR) (rf : AR) (lg : AR) (sg : AR) (N : MS) (T : MS) (K : MS) (I : MS) (Q : Int → AR → MS → MS → Prop) (h : wX3_museum lg sg N K Q) : MetIs l yX3_museum (wT yX3_museum cX3_museum 3 (some .int)) rX3_museum D cy kS vS [.ref (aO 0)] (wGh cy aO aL aN aT aK aI o rw rf lg sg N T K I) (fun u : AR × MS × MS => wGh cy aO aL aN aT aK aI o rw rf u.1 sg u.2.1 T u.2.2 I) (fun r u => Q r u.1 u.2.1 u.2.2) := by
  refine gI_Is (by decide) (Nat.le_of_ble_eq_true rfl) ?_
  intro p e s m args below meth c A Qg F hK hA hG ret H locs ls hl hP hD hS
  have F : CallFix p m c cX3_museum 3 s args gT RX3 := F
  have hl : lv_has ls 3 [(0, .ref (aO 0))] := hl
  refine lv_aload_n F.1 F.2.1 dX3_museum_0 rfl (lv_at hl 0 rfl) ?_
  refine gv_get F hin3 hK hP 0 rfl rfl 5 (by decide) k193 rfl dX3_museum_1 ?_
  refine gcs_VR (As := []) F hK hA hP hG hS (cp_gh_L hP) (c_X0_faultOfForm l D cy kS vS aL lg sg _ h) (cwV 0 F.2.2.2.2 (gG_V k236 k237 k238 k66 k239) rfl rfl rfl hd_X0_faultOfForm ⟨Nat.le_of_ble_eq_true rfl, Nat.le_of_ble_eq_true rfl⟩) rfl rfl dX3_museum_4 rfl rfl hl.1 (Nat.le_of_ble_eq_true rfl) ⟨Nat.le_of_ble_eq_true rfl, Nat.le_of_ble_eq_true rfl⟩ (fun u1 H locs h hP hS => ?_)
  refine lv_istore_n (lv' := [(1, .int (iI u1)), (0, .ref (aO 0))]) F.1 F.2.1 dX3_museum_7 rfl hl (by decide) rfl (fun ls hl => ?_)
  refine lv_iload_n F.1 F.2.1 dX3_museum_8 rfl (lv_at hl 0 rfl) ?_
  obtain ⟨g2, h⟩ := h
  refine gv_if_lt (tgt := 20) F g2 dX3_museum_9 (by decide) (fun c3 => ?_) (fun c3 => ?_)
  · have h := h.1 c3
    refine lv_aload_n F.1 F.2.1 dX3_museum_20 rfl (lv_at hl 1 rfl) ?_
    refine gcs_VI (As := []) (wn := fun u : MS × MS => wGh cy aO aL aN aT aK aI o rw rf lg sg u.1 T u.2 I) F hK hA hP hD hG hS hP hD (fun u H1 _ h1 h2 => ⟨h1, h2⟩) (c_X3_performAll l D cy kS vS aO aL aN aT aK aI o rw rf lg sg N T K I _ h) (cwV 0 F.2.2.2.2 (gG_V k342 k344 k4 k61 k345) rfl rfl rfl hd_X3_performAll ⟨Nat.le_of_ble_eq_true rfl, Nat.le_of_ble_eq_true rfl⟩) rfl rfl dX3_museum_21 rfl rfl hl.1 (Nat.le_of_ble_eq_true rfl) ⟨Nat.le_of_ble_eq_true rfl, Nat.le_of_ble_eq_true rfl⟩ (fun u6 u H locs h hP hD hS => ?_)
    obtain ⟨z4, z5⟩ := u
    try dsimp only at h hP hD
    refine lv_istore_n (lv' := [(2, .int (iI u6)), (1, .int (iI u1)), (0, .ref (aO 0))]) F.1 F.2.1 dX3_museum_24 rfl hl (by decide) rfl (fun ls hl => ?_)
    refine lv_aload_n F.1 F.2.1 dX3_museum_25 rfl (lv_at hl 2 rfl) ?_
    refine gv_get F hin3 hK hP 0 rfl rfl 5 (by decide) k193 rfl dX3_museum_26 ?_
    refine gc_VV (As := []) (wn := fun u : AR => wGh cy aO aL aN aT aK aI o rw rf u sg z4 T z5 I) F hK hA hP hD hS (cp_gh_L hP) (cd_gh_L hD) (fun u H1 hk h1 _ => cj_gh_L hP hD u sg H1 hk h1) (c_X0_forget l D cy aL lg sg _ h) (cwV 0 F.2.2.2.2 (gG_V k474 k475 k476 k66 k477) rfl rfl rfl hd_X0_forget ⟨Nat.le_of_ble_eq_true rfl, Nat.le_of_ble_eq_true rfl⟩) rfl rfl dX3_museum_29 rfl rfl hl.1 (Nat.le_of_ble_eq_true rfl) ⟨Nat.le_of_ble_eq_true rfl, Nat.le_of_ble_eq_true rfl⟩ (fun z7 H locs h hP hD hS => ?_)
    try dsimp only at h hP hD
    refine lv_iload_n F.1 F.2.1 dX3_museum_32 rfl (lv_at hl 0 rfl) ?_
    exact ret u6 (z7, z4, z5) H locs 33 ls h rfl hP hD hS dX3_museum_33
  · have h := h.2 c3
    refine gv_sipush F ⟨by decide, by decide⟩ dX3_museum_12 ?_
    refine lv_iload_n F.1 F.2.1 dX3_museum_15 rfl (lv_at hl 0 rfl) ?_
    refine gv_isub F dX3_museum_16 ?_
    refine lv_goto (tgt := 24) F.1 F.2.1 dX3_museum_17 (by decide) ?_
    refine gv_name (fun v8 ev8 => ?_)
    have h := h v8 ev8
    refine lv_istore_n (lv' := [(2, .int (iI v8)), (1, .int (iI u1)), (0, .ref (aO 0))]) F.1 F.2.1 dX3_museum_24 rfl hl (by decide) rfl (fun ls hl => ?_)
    refine lv_aload_n F.1 F.2.1 dX3_museum_25 rfl (lv_at hl 2 rfl) ?_
    refine gv_get F hin3 hK hP 0 rfl rfl 5 (by decide) k193 rfl dX3_museum_26 ?_
    refine gc_VV (As := []) (wn := fun u : AR => wGh cy aO aL aN aT aK aI o rw rf u sg N T K I) F hK hA hP hD hS (cp_gh_L hP) (cd_gh_L hD) (fun u H1 hk h1 _ => cj_gh_L hP hD u sg H1 hk h1) (c_X0_forget l D cy aL lg sg _ h) (cwV 0 F.2.2.2.2 (gG_V k474 k475 k476 k66 k477) rfl rfl rfl hd_X0_forget ⟨Nat.le_of_ble_eq_true rfl, Nat.le_of_ble_eq_true rfl⟩) rfl rfl dX3_museum_29 rfl rfl hl.1 (Nat.le_of_ble_eq_true rfl) ⟨Nat.le_of_ble_eq_true rfl, Nat.le_of_ble_eq_true rfl⟩ (fun z9 H locs h hP hD hS => ?_)
    try dsimp only at h hP hD
    refine lv_iload_n F.1 F.2.1 dX3_museum_32 rfl (lv_at hl 0 rfl) ?_
    exact ret v8 (z9, N, K) H locs 33 ls h rfl hP hD hS dX3_museum_33
