abbrev rX3_spreads : Room := { frames := 4, cells := 0, slots := 0, locals := 91 }
set_option maxHeartbeats 4000000 in
set_option maxRecDepth 20000 in
theorem c_X3_spreads (l : Launch) (D : va_G) (cy : ClassId) (aO : Nat → Nat) (aL : Nat → Nat) (aN : Nat → Nat) (aT : Nat → Nat) (aK : Nat → Nat) (aI : Nat → Nat) (o : AR) (rw : AR) (rf : AR) (lg : AR) (sg : AR) (N : MS) (T : MS) (K : MS) (I : MS) (x1 x2 : Int) (Q : Int → AR → MS → Prop) (h : wX3_spreads rf N T x1 x2 Q) : MetI l yX3_spreads (wT yX3_spreads cX3_spreads 6 (some .int)) rX3_spreads D cy [.ref (aO 0), .int (iI x1), .int (iI x2)] (wGh cy aO aL aN aT aK aI o rw rf lg sg N T K I) (fun u : AR × MS => wGh cy aO aL aN aT aK aI o rw u.1 lg sg N u.2 K I) (fun r u => Q r u.1 u.2) := by
  refine gI_I (by decide) (Nat.le_of_ble_eq_true rfl) ?_
  intro p e s m args below meth c A Qg F hK hA ret H locs ls hl hP hD hS
  have F : CallFix p m c cX3_spreads 6 s args gT RX3 := F
  have hl : lv_has ls 6 [(0, .ref (aO 0)), (1, .int (iI x1)), (2, .int (iI x2))] := hl
  have L87 : ∀ (n : Nat) (y2 : Int) (y3 : Int) (y4 : Int) (y5 : Int) (rf : AR) (T : MS) (H : Heap) (locs : List Loc) (ls : Array Slot), wX3_spreads_87 N Q n y2 y3 y4 y5 rf T → va_P D vwCl (wGh cy aO aL aN aT aK aI o rw rf lg sg N T K I) H → va_D A (wGh cy aO aL aN aT aK aI o rw rf lg sg N T K I) → va_S A s.heap H locs → lv_has ls 6 [(0, .ref (aO 0)), (2, .int (iI y2)), (3, .int (iI y3)), (4, .int (iI y4)), (5, .int (iI y5))] → W p l e rX3_spreads s m args below meth c H locs 0 0 Qg (F0 m 87 ls []) := by
    intro  n
    induction n with
    | zero => intro _ _ _ _ _ _ _ _ _ h; exact h.elim
    | succ n ih =>
      intro y2 y3 y4 y5 rf T H locs ls h hP hD hS hl
      rw [wX3_spreads_87_s] at h
      refine lv_iload F.1 F.2.1 dX3_spreads_87 (lv_at hl 4 rfl) ?_
      refine lv_aload_n F.1 F.2.1 dX3_spreads_89 rfl (lv_at hl 0 rfl) ?_
      refine gv_get F hin3 hK hP 0 rfl rfl 1 (by decide) k189 rfl dX3_spreads_90 ?_
      refine gv_get F hin1 hK (cp_gh_T hP) 0 rfl rfl 7 (by decide) k131 rfl dX3_spreads_93 ?_
      obtain ⟨g1, h⟩ := h
      obtain ⟨g2, h⟩ := h
      refine gv_icmp_ge (tgt := 129) F g1 g2 dX3_spreads_96 (by decide) (fun c3 => ?_) (fun c3 => ?_)
      · have h := h.1 c3
        refine lv_iload F.1 F.2.1 dX3_spreads_129 (lv_at hl 3 rfl) ?_
        exact ret y4 (rf, T) H locs 131 ls h rfl hP hD hS dX3_spreads_131
      · have h := h.2 c3
        refine lv_iload F.1 F.2.1 dX3_spreads_99 (lv_at hl 3 rfl) ?_
        refine lv_aload_n F.1 F.2.1 dX3_spreads_101 rfl (lv_at hl 0 rfl) ?_
        refine gv_get F hin3 hK hP 0 rfl rfl 1 (by decide) k189 rfl dX3_spreads_102 ?_
        refine lv_iload F.1 F.2.1 dX3_spreads_105 (lv_at hl 4 rfl) ?_
        refine lv_iload_n F.1 F.2.1 dX3_spreads_107 rfl (lv_at hl 1 rfl) ?_
        refine gc_VR (As := [.int (iI y5), .int (iI y2)]) F hK hA hP hS (cp_gh_T hP) (c_X1_answerOf l D cy aT T y5 y2 _ h) (cwV 2 F.2.2.2.2 (gG_V k501 k469 k470 k62 k471) rfl rfl rfl hd_X1_answerOf ⟨Nat.le_of_ble_eq_true rfl, Nat.le_of_ble_eq_true rfl⟩) rfl rfl dX3_spreads_108 rfl rfl hl.1 (Nat.le_of_ble_eq_true rfl) ⟨Nat.le_of_ble_eq_true rfl, Nat.le_of_ble_eq_true rfl⟩ (fun u4 H locs h hP hS => ?_)
        refine lv_iload_n F.1 F.2.1 dX3_spreads_111 rfl (lv_at hl 2 rfl) ?_
        obtain ⟨g5, h⟩ := h
        obtain ⟨g6, h⟩ := h
        refine gv_icmp_ne (tgt := 119) F g5 g6 dX3_spreads_112 (by decide) (fun c7 => ?_) (fun c7 => ?_)
        · have h := h.1 c7
          refine gv_iconst F dX3_spreads_119 ?_
          refine gv_iadd F dX3_spreads_120 ?_
          refine gv_name (fun v8 ev8 => ?_)
          have h := h v8 ev8
          refine lv_istore (lv' := [(4, .int (iI v8)), (0, .ref (aO 0)), (2, .int (iI y2)), (3, .int (iI y3)), (5, .int (iI y5))]) F.1 F.2.1 dX3_spreads_121 hl (by decide) rfl (fun ls hl => ?_)
          obtain ⟨v9, ev9⟩ : ∃ z : Int, z = y5 + 1 := ⟨_, rfl⟩
          have h := h v9 ev9
          refine gv_iinc (lv' := [(5, .int (iI v9)), (4, .int (iI v8)), (0, .ref (aO 0)), (2, .int (iI y2)), (3, .int (iI y3))]) F dX3_spreads_123 hl (k := 4) rfl ev9 (by decide) rfl (fun ls hl => ?_)
          refine lv_goto (tgt := 87) F.1 F.2.1 dX3_spreads_126 (by decide) ?_
          exact ih y2 y3 v8 v9 rf T H locs ls h hP hD hS (lv_sub hl [2, 3, 4, 1, 0] rfl)
        · have h := h.2 c7
          refine gv_iconst F dX3_spreads_115 ?_
          refine lv_goto (tgt := 120) F.1 F.2.1 dX3_spreads_116 (by decide) ?_
          refine gv_iadd F dX3_spreads_120 ?_
          refine gv_name (fun v10 ev10 => ?_)
          have h := h v10 ev10
          refine lv_istore (lv' := [(4, .int (iI v10)), (0, .ref (aO 0)), (2, .int (iI y2)), (3, .int (iI y3)), (5, .int (iI y5))]) F.1 F.2.1 dX3_spreads_121 hl (by decide) rfl (fun ls hl => ?_)
          obtain ⟨v11, ev11⟩ : ∃ z : Int, z = y5 + 1 := ⟨_, rfl⟩
          have h := h v11 ev11
          refine gv_iinc (lv' := [(5, .int (iI v11)), (4, .int (iI v10)), (0, .ref (aO 0)), (2, .int (iI y2)), (3, .int (iI y3))]) F dX3_spreads_123 hl (k := 4) rfl ev11 (by decide) rfl (fun ls hl => ?_)
          refine lv_goto (tgt := 87) F.1 F.2.1 dX3_spreads_126 (by decide) ?_
          exact ih y2 y3 v10 v11 rf T H locs ls h hP hD hS (lv_sub hl [2, 3, 4, 1, 0] rfl)
  refine lv_aload_n F.1 F.2.1 dX3_spreads_0 rfl (lv_at hl 0 rfl) ?_
  refine lv_iload_n F.1 F.2.1 dX3_spreads_1 rfl (lv_at hl 1 rfl) ?_
  refine gc_VR (As := [.int (iI x1)]) F hK hA hP hS hP (c_X3_noGroup l D cy aO aL aN aT aK aI o rw rf lg sg N T K I x1 _ h) (cwV 1 F.2.2.2.2 (gG_V k407 k409 k10 k61 k410) rfl rfl rfl hd_X3_noGroup ⟨Nat.le_of_ble_eq_true rfl, Nat.le_of_ble_eq_true rfl⟩) rfl rfl dX3_spreads_2 rfl rfl hl.1 (Nat.le_of_ble_eq_true rfl) ⟨Nat.le_of_ble_eq_true rfl, Nat.le_of_ble_eq_true rfl⟩ (fun u12 H locs h hP hS => ?_)
  obtain ⟨bu12, h⟩ := h
  refine gv_if_ne (tgt := 16) F (gRb bu12) dX3_spreads_5 (by decide) (fun c13 => ?_) (fun c13 => ?_)
  · have h := h.1 c13
    refine lv_aload_n F.1 F.2.1 dX3_spreads_16 rfl (lv_at hl 0 rfl) ?_
    refine gv_iconst F dX3_spreads_17 ?_
    refine gc_VI (As := [.int (iI (-1))]) (wn := fun u : AR => wGh cy aO aL aN aT aK aI o rw u lg sg N T K I) F hK hA hP hD hS hP hD (fun u H1 _ h1 h2 => ⟨h1, h2⟩) (c_X3_refuse l D cy aO aL aN aT aK aI o rw rf lg sg N T K I (-1) _ h) (cwV 1 F.2.2.2.2 (gG_V k220 k222 k2 k61 k223) rfl rfl rfl hd_X3_refuse ⟨Nat.le_of_ble_eq_true rfl, Nat.le_of_ble_eq_true rfl⟩) rfl rfl dX3_spreads_18 rfl rfl hl.1 (Nat.le_of_ble_eq_true rfl) ⟨Nat.le_of_ble_eq_true rfl, Nat.le_of_ble_eq_true rfl⟩ (fun u15 z14 H locs h hP hD hS => ?_)
    try dsimp only at h hP hD
    exact ret u15 (z14, T) H locs 21 ls h rfl hP hD hS dX3_spreads_21
  · have h := h.2 c13
    refine lv_aload_n F.1 F.2.1 dX3_spreads_8 rfl (lv_at hl 0 rfl) ?_
    refine lv_iload_n F.1 F.2.1 dX3_spreads_9 rfl (lv_at hl 2 rfl) ?_
    refine gc_VR (As := [.int (iI x2)]) F hK hA hP hS hP (c_X3_noQuestion l D cy aO aL aN aT aK aI o rw rf lg sg N T K I x2 _ h) (cwV 1 F.2.2.2.2 (gG_V k419 k421 k12 k61 k422) rfl rfl rfl hd_X3_noQuestion ⟨Nat.le_of_ble_eq_true rfl, Nat.le_of_ble_eq_true rfl⟩) rfl rfl dX3_spreads_10 rfl rfl hl.1 (Nat.le_of_ble_eq_true rfl) ⟨Nat.le_of_ble_eq_true rfl, Nat.le_of_ble_eq_true rfl⟩ (fun u16 H locs h hP hS => ?_)
    obtain ⟨bu16, h⟩ := h
    refine gv_if_eq (tgt := 22) F (gRb bu16) dX3_spreads_13 (by decide) (fun c17 => ?_) (fun c17 => ?_)
    · have h := h.1 c17
      refine lv_aload_n F.1 F.2.1 dX3_spreads_22 rfl (lv_at hl 0 rfl) ?_
      refine gv_get F hin3 hK hP 0 rfl rfl 0 (by decide) k188 rfl dX3_spreads_23 ?_
      refine lv_iload_n F.1 F.2.1 dX3_spreads_26 rfl (lv_at hl 1 rfl) ?_
      refine lv_iload_n F.1 F.2.1 dX3_spreads_27 rfl (lv_at hl 2 rfl) ?_
      refine gc_VR (As := [.int (iI x1), .int (iI x2)]) F hK hA hP hS (cp_gh_N hP) (c_X1_answerOf l D cy aN N x1 x2 _ h) (cwV 2 F.2.2.2.2 (gG_V k501 k469 k470 k62 k471) rfl rfl rfl hd_X1_answerOf ⟨Nat.le_of_ble_eq_true rfl, Nat.le_of_ble_eq_true rfl⟩) rfl rfl dX3_spreads_28 rfl rfl hl.1 (Nat.le_of_ble_eq_true rfl) ⟨Nat.le_of_ble_eq_true rfl, Nat.le_of_ble_eq_true rfl⟩ (fun u18 H locs h hP hS => ?_)
      refine gv_bipush F ⟨by decide, by decide⟩ dX3_spreads_31 ?_
      obtain ⟨g19, h⟩ := h
      refine gv_icmp_eq (tgt := 43) F g19 ⟨by decide, by decide⟩ dX3_spreads_33 (by decide) (fun c20 => ?_) (fun c20 => ?_)
      · have h := h.1 c20
        refine lv_aload_n F.1 F.2.1 dX3_spreads_43 rfl (lv_at hl 0 rfl) ?_
        refine gv_get F hin3 hK hP 0 rfl rfl 0 (by decide) k188 rfl dX3_spreads_44 ?_
        refine gv_get F hin1 hK (cp_gh_N hP) 0 rfl rfl 6 (by decide) k129 rfl dX3_spreads_47 ?_
        refine lv_iload_n F.1 F.2.1 dX3_spreads_50 rfl (lv_at hl 2 rfl) ?_
        obtain ⟨g21, h⟩ := h
        refine gv_iald (n := 8) (g := (N 7)) F hK (cp_gh_N hP) 7 rfl rfl (by decide) g21 dX3_spreads_51 ?_
        refine gv_iconst F dX3_spreads_52 ?_
        refine gv_iadd F dX3_spreads_53 ?_
        refine gv_bipush F ⟨by decide, by decide⟩ dX3_spreads_54 ?_
        obtain ⟨g22, h⟩ := h
        refine gv_irem F ⟨g22, by decide, by decide⟩ dX3_spreads_56 ?_
        refine gv_name (fun v23 ev23 => ?_)
        have h := h v23 ev23
        refine lv_istore_n (lv' := [(3, .int (iI v23)), (0, .ref (aO 0)), (1, .int (iI x1)), (2, .int (iI x2))]) F.1 F.2.1 dX3_spreads_57 rfl hl (by decide) rfl (fun ls hl => ?_)
        refine lv_aload_n F.1 F.2.1 dX3_spreads_58 rfl (lv_at hl 1 rfl) ?_
        refine gc_VV (As := []) (wn := fun u : MS => wGh cy aO aL aN aT aK aI o rw rf lg sg N u K I) F hK hA hP hD hS hP hD (fun u H1 _ h1 h2 => ⟨h1, h2⟩) (c_X3_think l D cy aO aL aN aT aK aI o rw rf lg sg N T K I _ h) (cwV 0 F.2.2.2.2 (gG_V k539 k541 k19 k61 k542) rfl rfl rfl hd_X3_think ⟨Nat.le_of_ble_eq_true rfl, Nat.le_of_ble_eq_true rfl⟩) rfl rfl dX3_spreads_59 rfl rfl hl.1 (Nat.le_of_ble_eq_true rfl) ⟨Nat.le_of_ble_eq_true rfl, Nat.le_of_ble_eq_true rfl⟩ (fun z24 H locs h hP hD hS => ?_)
        try dsimp only at h hP hD
        refine lv_aload_n F.1 F.2.1 dX3_spreads_62 rfl (lv_at hl 1 rfl) ?_
        refine gv_get F hin3 hK hP 0 rfl rfl 1 (by decide) k189 rfl dX3_spreads_63 ?_
        refine lv_iload_n F.1 F.2.1 dX3_spreads_66 rfl (lv_at hl 2 rfl) ?_
        refine lv_iload_n F.1 F.2.1 dX3_spreads_67 rfl (lv_at hl 3 rfl) ?_
        refine lv_iload_n F.1 F.2.1 dX3_spreads_68 rfl (lv_at hl 0 rfl) ?_
        refine gc_VV (As := [.int (iI x1), .int (iI x2), .int (iI v23)]) (wn := fun u : MS => wGh cy aO aL aN aT aK aI o rw rf lg sg N u K I) F hK hA hP hD hS (cp_gh_T hP) (cd_gh_T hD) (fun u H1 hk h1 _ => cj_gh_T hP hD u H1 hk h1) (c_X1_fill l D cy aT z24 x1 x2 v23 _ h) (cwV 3 F.2.2.2.2 (gG_V k423 k424 k425 k62 k426) rfl rfl rfl hd_X1_fill ⟨Nat.le_of_ble_eq_true rfl, Nat.le_of_ble_eq_true rfl⟩) rfl rfl dX3_spreads_69 rfl rfl hl.1 (Nat.le_of_ble_eq_true rfl) ⟨Nat.le_of_ble_eq_true rfl, Nat.le_of_ble_eq_true rfl⟩ (fun z25 H locs h hP hD hS => ?_)
        try dsimp only at h hP hD
        refine lv_aload_n F.1 F.2.1 dX3_spreads_72 rfl (lv_at hl 1 rfl) ?_
        refine gv_get F hin3 hK hP 0 rfl rfl 1 (by decide) k189 rfl dX3_spreads_73 ?_
        refine gv_bipush F ⟨by decide, by decide⟩ dX3_spreads_76 ?_
        refine gc_VV (As := [.int (iI 99)]) (wn := fun u : MS => wGh cy aO aL aN aT aK aI o rw rf lg sg N u K I) F hK hA hP hD hS (cp_gh_T hP) (cd_gh_T hD) (fun u H1 hk h1 _ => cj_gh_T hP hD u H1 hk h1) (c_X1_passMinutes l D cy aT z25 99 _ h) (cwV 1 F.2.2.2.2 (gG_V k431 k432 k433 k62 k434) rfl rfl rfl hd_X1_passMinutes ⟨Nat.le_of_ble_eq_true rfl, Nat.le_of_ble_eq_true rfl⟩) rfl rfl dX3_spreads_78 rfl rfl hl.1 (Nat.le_of_ble_eq_true rfl) ⟨Nat.le_of_ble_eq_true rfl, Nat.le_of_ble_eq_true rfl⟩ (fun z26 H locs h hP hD hS => ?_)
        try dsimp only at h hP hD
        refine gv_iconst F dX3_spreads_81 ?_
        refine lv_istore (lv' := [(4, .int (iI 0)), (3, .int (iI v23)), (0, .ref (aO 0)), (1, .int (iI x1)), (2, .int (iI x2))]) F.1 F.2.1 dX3_spreads_82 hl (by decide) rfl (fun ls hl => ?_)
        refine gv_iconst F dX3_spreads_84 ?_
        refine lv_istore (lv' := [(5, .int (iI 0)), (4, .int (iI 0)), (3, .int (iI v23)), (0, .ref (aO 0)), (1, .int (iI x1)), (2, .int (iI x2))]) F.1 F.2.1 dX3_spreads_85 hl (by decide) rfl (fun ls hl => ?_)
        obtain ⟨n27, h⟩ := h
        exact L87 n27 x2 v23 0 0 rf z26 H locs ls h hP hD hS (lv_sub hl [3, 5, 2, 1, 0] rfl)
      · have h := h.2 c20
        refine lv_aload_n F.1 F.2.1 dX3_spreads_36 rfl (lv_at hl 0 rfl) ?_
        refine gv_bipush F ⟨by decide, by decide⟩ dX3_spreads_37 ?_
        refine gc_VI (As := [.int (iI (-3))]) (wn := fun u : AR => wGh cy aO aL aN aT aK aI o rw u lg sg N T K I) F hK hA hP hD hS hP hD (fun u H1 _ h1 h2 => ⟨h1, h2⟩) (c_X3_refuse l D cy aO aL aN aT aK aI o rw rf lg sg N T K I (-3) _ h) (cwV 1 F.2.2.2.2 (gG_V k220 k222 k2 k61 k223) rfl rfl rfl hd_X3_refuse ⟨Nat.le_of_ble_eq_true rfl, Nat.le_of_ble_eq_true rfl⟩) rfl rfl dX3_spreads_39 rfl rfl hl.1 (Nat.le_of_ble_eq_true rfl) ⟨Nat.le_of_ble_eq_true rfl, Nat.le_of_ble_eq_true rfl⟩ (fun u29 z28 H locs h hP hD hS => ?_)
        try dsimp only at h hP hD
        exact ret u29 (z28, T) H locs 42 ls h rfl hP hD hS dX3_spreads_42
    · have h := h.2 c17
      refine lv_aload_n F.1 F.2.1 dX3_spreads_16 rfl (lv_at hl 0 rfl) ?_
      refine gv_iconst F dX3_spreads_17 ?_
      refine gc_VI (As := [.int (iI (-1))]) (wn := fun u : AR => wGh cy aO aL aN aT aK aI o rw u lg sg N T K I) F hK hA hP hD hS hP hD (fun u H1 _ h1 h2 => ⟨h1, h2⟩) (c_X3_refuse l D cy aO aL aN aT aK aI o rw rf lg sg N T K I (-1) _ h) (cwV 1 F.2.2.2.2 (gG_V k220 k222 k2 k61 k223) rfl rfl rfl hd_X3_refuse ⟨Nat.le_of_ble_eq_true rfl, Nat.le_of_ble_eq_true rfl⟩) rfl rfl dX3_spreads_18 rfl rfl hl.1 (Nat.le_of_ble_eq_true rfl) ⟨Nat.le_of_ble_eq_true rfl, Nat.le_of_ble_eq_true rfl⟩ (fun u31 z30 H locs h hP hD hS => ?_)
      try dsimp only at h hP hD
      exact ret u31 (z30, T) H locs 21 ls h rfl hP hD hS dX3_spreads_21
abbrev rX3_missing : Room := { frames := 5, cells := 0, slots := 0, locals := 112 }
set_option maxHeartbeats 4000000 in
set_option maxRecDepth 20000 in
theorem c_X3_missing (l : Launch) (D : va_G) (cy : ClassId) (aO : Nat → Nat) (aL : Nat → Nat) (aN : Nat → Nat) (aT : Nat → Nat) (aK : Nat → Nat) (aI : Nat → Nat) (o : AR) (rw : AR) (rf : AR) (lg : AR) (sg : AR) (N : MS) (T : MS) (K : MS) (I : MS) (x1 x2 : Int) (Q : Int → AR → MS → Prop) (h : wX3_missing rf N T x1 x2 Q) : MetI l yX3_missing (wT yX3_missing cX3_missing 6 (some .int)) rX3_missing D cy [.ref (aO 0), .int (iI x1), .int (iI x2)] (wGh cy aO aL aN aT aK aI o rw rf lg sg N T K I) (fun u : AR × MS => wGh cy aO aL aN aT aK aI o rw u.1 lg sg N u.2 K I) (fun r u => Q r u.1 u.2) := by
  refine gI_I (by decide) (Nat.le_of_ble_eq_true rfl) ?_
  intro p e s m args below meth c A Qg F hK hA ret H locs ls hl hP hD hS
  have F : CallFix p m c cX3_missing 6 s args gT RX3 := F
  have hl : lv_has ls 6 [(0, .ref (aO 0)), (1, .int (iI x1)), (2, .int (iI x2))] := hl
  have L44 : ∀ (n : Nat) (y2 : Int) (y3 : Int) (y4 : Int) (rf : AR) (T : MS) (H : Heap) (locs : List Loc) (ls : Array Slot), wX3_missing_44 N Q n y2 y3 y4 rf T → va_P D vwCl (wGh cy aO aL aN aT aK aI o rw rf lg sg N T K I) H → va_D A (wGh cy aO aL aN aT aK aI o rw rf lg sg N T K I) → va_S A s.heap H locs → lv_has ls 6 [(0, .ref (aO 0)), (2, .int (iI y2)), (3, .int (iI y3)), (4, .int (iI y4))] → W p l e rX3_missing s m args below meth c H locs 0 0 Qg (F0 m 44 ls []) := by
    intro  n
    induction n with
    | zero => intro _ _ _ _ _ _ _ _ h; exact h.elim
    | succ n ih =>
      intro y2 y3 y4 rf T H locs ls h hP hD hS hl
      rw [wX3_missing_44_s] at h
      refine lv_iload F.1 F.2.1 dX3_missing_44 (lv_at hl 3 rfl) ?_
      refine lv_aload_n F.1 F.2.1 dX3_missing_46 rfl (lv_at hl 0 rfl) ?_
      refine gv_get F hin3 hK hP 0 rfl rfl 1 (by decide) k189 rfl dX3_missing_47 ?_
      refine gv_get F hin1 hK (cp_gh_T hP) 0 rfl rfl 7 (by decide) k131 rfl dX3_missing_50 ?_
      obtain ⟨g1, h⟩ := h
      obtain ⟨g2, h⟩ := h
      refine gv_icmp_ge (tgt := 105) F g1 g2 dX3_missing_53 (by decide) (fun c3 => ?_) (fun c3 => ?_)
      · have h := h.1 c3
        refine lv_iload_n F.1 F.2.1 dX3_missing_105 rfl (lv_at hl 2 rfl) ?_
        exact ret y3 (rf, T) H locs 106 ls h rfl hP hD hS dX3_missing_106
      · have h := h.2 c3
        refine lv_aload_n F.1 F.2.1 dX3_missing_56 rfl (lv_at hl 0 rfl) ?_
        refine gv_get F hin3 hK hP 0 rfl rfl 1 (by decide) k189 rfl dX3_missing_57 ?_
        refine gv_get F hin1 hK (cp_gh_T hP) 0 rfl rfl 0 (by decide) k117 rfl dX3_missing_60 ?_
        refine lv_aload_n F.1 F.2.1 dX3_missing_63 rfl (lv_at hl 0 rfl) ?_
        refine gv_get F hin3 hK hP 0 rfl rfl 1 (by decide) k189 rfl dX3_missing_64 ?_
        refine gv_get F hin1 hK (cp_gh_T hP) 0 rfl rfl 11 (by decide) k139 rfl dX3_missing_67 ?_
        refine lv_iload F.1 F.2.1 dX3_missing_70 (lv_at hl 3 rfl) ?_
        obtain ⟨g4, h⟩ := h
        refine gv_iald (n := 5) (g := (T 11)) F hK (cp_gh_T hP) 11 rfl rfl (by decide) g4 dX3_missing_72 ?_
        refine gv_iconst F dX3_missing_73 ?_
        refine gc_VR (As := [.int (iI ((T 11) y4)), .int (iI 0)]) F hK hA hP hS (cp_gh_Tr hP) (c_X2_distance l D cy (fun k => aT (k + 1)) (T 2) (T 3) ((T 11) y4) 0 _ h) (cwV 2 F.2.2.2.2 (gG_V k483 k484 k485 k63 k486) rfl rfl rfl hd_X2_distance ⟨Nat.le_of_ble_eq_true rfl, Nat.le_of_ble_eq_true rfl⟩) rfl rfl dX3_missing_74 rfl rfl hl.1 (Nat.le_of_ble_eq_true rfl) ⟨Nat.le_of_ble_eq_true rfl, Nat.le_of_ble_eq_true rfl⟩ (fun u5 H locs h hP hS => ?_)
        refine lv_istore (lv' := [(5, .int (iI u5)), (0, .ref (aO 0)), (2, .int (iI y2)), (3, .int (iI y3)), (4, .int (iI y4))]) F.1 F.2.1 dX3_missing_77 hl (by decide) rfl (fun ls hl => ?_)
        refine lv_iload F.1 F.2.1 dX3_missing_79 (lv_at hl 0 rfl) ?_
        refine gv_bipush F ⟨by decide, by decide⟩ dX3_missing_81 ?_
        obtain ⟨g6, h⟩ := h
        refine gv_icmp_eq (tgt := 92) F g6 ⟨by decide, by decide⟩ dX3_missing_83 (by decide) (fun c7 => ?_) (fun c7 => ?_)
        · have h := h.1 c7
          refine lv_iload_n F.1 F.2.1 dX3_missing_92 rfl (lv_at hl 3 rfl) ?_
          refine gv_iconst F dX3_missing_93 ?_
          refine lv_iload F.1 F.2.1 dX3_missing_94 (lv_at hl 4 rfl) ?_
          obtain ⟨g8, h⟩ := h
          refine gv_ishl F g8 dX3_missing_96 ?_
          obtain ⟨g9, h⟩ := h
          refine gv_ior F g9 dX3_missing_97 ?_
          refine gv_name (fun v10 ev10 => ?_)
          have h := h v10 ev10
          refine lv_istore_n (lv' := [(3, .int (iI v10)), (5, .int (iI u5)), (0, .ref (aO 0)), (2, .int (iI y2)), (4, .int (iI y4))]) F.1 F.2.1 dX3_missing_98 rfl hl (by decide) rfl (fun ls hl => ?_)
          obtain ⟨v11, ev11⟩ : ∃ z : Int, z = y4 + 1 := ⟨_, rfl⟩
          have h := h v11 ev11
          refine gv_iinc (lv' := [(4, .int (iI v11)), (3, .int (iI v10)), (5, .int (iI u5)), (0, .ref (aO 0)), (2, .int (iI y2))]) F dX3_missing_99 hl (k := 4) rfl ev11 (by decide) rfl (fun ls hl => ?_)
          refine lv_goto (tgt := 44) F.1 F.2.1 dX3_missing_102 (by decide) ?_
          exact ih y2 v10 v11 rf T H locs ls h hP hD hS (lv_sub hl [3, 4, 1, 0] rfl)
        · have h := h.2 c7
          refine lv_iload F.1 F.2.1 dX3_missing_86 (lv_at hl 0 rfl) ?_
          refine lv_iload_n F.1 F.2.1 dX3_missing_88 rfl (lv_at hl 2 rfl) ?_
          obtain ⟨g12, h⟩ := h
          refine gv_icmp_le (tgt := 99) F g6 g12 dX3_missing_89 (by decide) (fun c13 => ?_) (fun c13 => ?_)
          · have h := h.1 c13
            obtain ⟨v14, ev14⟩ : ∃ z : Int, z = y4 + 1 := ⟨_, rfl⟩
            have h := h v14 ev14
            refine gv_iinc (lv' := [(4, .int (iI v14)), (5, .int (iI u5)), (0, .ref (aO 0)), (2, .int (iI y2)), (3, .int (iI y3))]) F dX3_missing_99 hl (k := 4) rfl ev14 (by decide) rfl (fun ls hl => ?_)
            refine lv_goto (tgt := 44) F.1 F.2.1 dX3_missing_102 (by decide) ?_
            exact ih y2 y3 v14 rf T H locs ls h hP hD hS (lv_sub hl [2, 3, 4, 0] rfl)
          · have h := h.2 c13
            refine lv_iload_n F.1 F.2.1 dX3_missing_92 rfl (lv_at hl 3 rfl) ?_
            refine gv_iconst F dX3_missing_93 ?_
            refine lv_iload F.1 F.2.1 dX3_missing_94 (lv_at hl 4 rfl) ?_
            obtain ⟨g15, h⟩ := h
            refine gv_ishl F g15 dX3_missing_96 ?_
            obtain ⟨g16, h⟩ := h
            refine gv_ior F g16 dX3_missing_97 ?_
            refine gv_name (fun v17 ev17 => ?_)
            have h := h v17 ev17
            refine lv_istore_n (lv' := [(3, .int (iI v17)), (5, .int (iI u5)), (0, .ref (aO 0)), (2, .int (iI y2)), (4, .int (iI y4))]) F.1 F.2.1 dX3_missing_98 rfl hl (by decide) rfl (fun ls hl => ?_)
            obtain ⟨v18, ev18⟩ : ∃ z : Int, z = y4 + 1 := ⟨_, rfl⟩
            have h := h v18 ev18
            refine gv_iinc (lv' := [(4, .int (iI v18)), (3, .int (iI v17)), (5, .int (iI u5)), (0, .ref (aO 0)), (2, .int (iI y2))]) F dX3_missing_99 hl (k := 4) rfl ev18 (by decide) rfl (fun ls hl => ?_)
            refine lv_goto (tgt := 44) F.1 F.2.1 dX3_missing_102 (by decide) ?_
            exact ih y2 v17 v18 rf T H locs ls h hP hD hS (lv_sub hl [3, 4, 1, 0] rfl)
  refine lv_iload_n F.1 F.2.1 dX3_missing_0 rfl (lv_at hl 1 rfl) ?_
  obtain ⟨g19, h⟩ := h
  refine gv_if_lt (tgt := 8) F g19 dX3_missing_1 (by decide) (fun c20 => ?_) (fun c20 => ?_)
  · have h := h.1 c20
    refine lv_aload_n F.1 F.2.1 dX3_missing_8 rfl (lv_at hl 0 rfl) ?_
    refine gv_bipush F ⟨by decide, by decide⟩ dX3_missing_9 ?_
    refine gc_VI (As := [.int (iI (-4))]) (wn := fun u : AR => wGh cy aO aL aN aT aK aI o rw u lg sg N T K I) F hK hA hP hD hS hP hD (fun u H1 _ h1 h2 => ⟨h1, h2⟩) (c_X3_refuse l D cy aO aL aN aT aK aI o rw rf lg sg N T K I (-4) _ h) (cwV 1 F.2.2.2.2 (gG_V k220 k222 k2 k61 k223) rfl rfl rfl hd_X3_refuse ⟨Nat.le_of_ble_eq_true rfl, Nat.le_of_ble_eq_true rfl⟩) rfl rfl dX3_missing_11 rfl rfl hl.1 (Nat.le_of_ble_eq_true rfl) ⟨Nat.le_of_ble_eq_true rfl, Nat.le_of_ble_eq_true rfl⟩ (fun u22 z21 H locs h hP hD hS => ?_)
    try dsimp only at h hP hD
    exact ret u22 (z21, T) H locs 14 ls h rfl hP hD hS dX3_missing_14
  · have h := h.2 c20
    refine lv_iload_n F.1 F.2.1 dX3_missing_4 rfl (lv_at hl 2 rfl) ?_
    obtain ⟨g23, h⟩ := h
    refine gv_if_ge (tgt := 15) F g23 dX3_missing_5 (by decide) (fun c24 => ?_) (fun c24 => ?_)
    · have h := h.1 c24
      refine lv_iload_n F.1 F.2.1 dX3_missing_15 rfl (lv_at hl 1 rfl) ?_
      refine gv_bipush F ⟨by decide, by decide⟩ dX3_missing_16 ?_
      refine gv_icmp_gt (tgt := 27) F g19 ⟨by decide, by decide⟩ dX3_missing_18 (by decide) (fun c25 => ?_) (fun c25 => ?_)
      · have h := h.1 c25
        refine lv_aload_n F.1 F.2.1 dX3_missing_27 rfl (lv_at hl 0 rfl) ?_
        refine gv_bipush F ⟨by decide, by decide⟩ dX3_missing_28 ?_
        refine gc_VI (As := [.int (iI (-6))]) (wn := fun u : AR => wGh cy aO aL aN aT aK aI o rw u lg sg N T K I) F hK hA hP hD hS hP hD (fun u H1 _ h1 h2 => ⟨h1, h2⟩) (c_X3_refuse l D cy aO aL aN aT aK aI o rw rf lg sg N T K I (-6) _ h) (cwV 1 F.2.2.2.2 (gG_V k220 k222 k2 k61 k223) rfl rfl rfl hd_X3_refuse ⟨Nat.le_of_ble_eq_true rfl, Nat.le_of_ble_eq_true rfl⟩) rfl rfl dX3_missing_30 rfl rfl hl.1 (Nat.le_of_ble_eq_true rfl) ⟨Nat.le_of_ble_eq_true rfl, Nat.le_of_ble_eq_true rfl⟩ (fun u27 z26 H locs h hP hD hS => ?_)
        try dsimp only at h hP hD
        exact ret u27 (z26, T) H locs 33 ls h rfl hP hD hS dX3_missing_33
      · have h := h.2 c25
        refine lv_iload_n F.1 F.2.1 dX3_missing_21 rfl (lv_at hl 2 rfl) ?_
        refine gv_bipush F ⟨by decide, by decide⟩ dX3_missing_22 ?_
        refine gv_icmp_le (tgt := 34) F g23 ⟨by decide, by decide⟩ dX3_missing_24 (by decide) (fun c28 => ?_) (fun c28 => ?_)
        · have h := h.1 c28
          refine lv_aload_n F.1 F.2.1 dX3_missing_34 rfl (lv_at hl 0 rfl) ?_
          refine lv_iload_n F.1 F.2.1 dX3_missing_35 rfl (lv_at hl 1 rfl) ?_
          refine gc_VV (As := [.int (iI x1)]) (wn := fun u : MS => wGh cy aO aL aN aT aK aI o rw rf lg sg N u K I) F hK hA hP hD hS hP hD (fun u H1 _ h1 h2 => ⟨h1, h2⟩) (c_X3_thinkAhead l D cy aO aL aN aT aK aI o rw rf lg sg N T K I x1 _ h) (cwV 1 F.2.2.2.2 (gG_V k535 k537 k18 k61 k538) rfl rfl rfl hd_X3_thinkAhead ⟨Nat.le_of_ble_eq_true rfl, Nat.le_of_ble_eq_true rfl⟩) rfl rfl dX3_missing_36 rfl rfl hl.1 (Nat.le_of_ble_eq_true rfl) ⟨Nat.le_of_ble_eq_true rfl, Nat.le_of_ble_eq_true rfl⟩ (fun z29 H locs h hP hD hS => ?_)
          try dsimp only at h hP hD
          refine gv_iconst F dX3_missing_39 ?_
          refine lv_istore_n (lv' := [(3, .int (iI 0)), (0, .ref (aO 0)), (1, .int (iI x1)), (2, .int (iI x2))]) F.1 F.2.1 dX3_missing_40 rfl hl (by decide) rfl (fun ls hl => ?_)
          refine gv_iconst F dX3_missing_41 ?_
          refine lv_istore (lv' := [(4, .int (iI 0)), (3, .int (iI 0)), (0, .ref (aO 0)), (1, .int (iI x1)), (2, .int (iI x2))]) F.1 F.2.1 dX3_missing_42 hl (by decide) rfl (fun ls hl => ?_)
          obtain ⟨n30, h⟩ := h
          exact L44 n30 x2 0 0 rf z29 H locs ls h hP hD hS (lv_sub hl [2, 4, 1, 0] rfl)
        · have h := h.2 c28
          refine lv_aload_n F.1 F.2.1 dX3_missing_27 rfl (lv_at hl 0 rfl) ?_
          refine gv_bipush F ⟨by decide, by decide⟩ dX3_missing_28 ?_
          refine gc_VI (As := [.int (iI (-6))]) (wn := fun u : AR => wGh cy aO aL aN aT aK aI o rw u lg sg N T K I) F hK hA hP hD hS hP hD (fun u H1 _ h1 h2 => ⟨h1, h2⟩) (c_X3_refuse l D cy aO aL aN aT aK aI o rw rf lg sg N T K I (-6) _ h) (cwV 1 F.2.2.2.2 (gG_V k220 k222 k2 k61 k223) rfl rfl rfl hd_X3_refuse ⟨Nat.le_of_ble_eq_true rfl, Nat.le_of_ble_eq_true rfl⟩) rfl rfl dX3_missing_30 rfl rfl hl.1 (Nat.le_of_ble_eq_true rfl) ⟨Nat.le_of_ble_eq_true rfl, Nat.le_of_ble_eq_true rfl⟩ (fun u32 z31 H locs h hP hD hS => ?_)
          try dsimp only at h hP hD
          exact ret u32 (z31, T) H locs 33 ls h rfl hP hD hS dX3_missing_33
    · have h := h.2 c24
      refine lv_aload_n F.1 F.2.1 dX3_missing_8 rfl (lv_at hl 0 rfl) ?_
      refine gv_bipush F ⟨by decide, by decide⟩ dX3_missing_9 ?_
      refine gc_VI (As := [.int (iI (-4))]) (wn := fun u : AR => wGh cy aO aL aN aT aK aI o rw u lg sg N T K I) F hK hA hP hD hS hP hD (fun u H1 _ h1 h2 => ⟨h1, h2⟩) (c_X3_refuse l D cy aO aL aN aT aK aI o rw rf lg sg N T K I (-4) _ h) (cwV 1 F.2.2.2.2 (gG_V k220 k222 k2 k61 k223) rfl rfl rfl hd_X3_refuse ⟨Nat.le_of_ble_eq_true rfl, Nat.le_of_ble_eq_true rfl⟩) rfl rfl dX3_missing_11 rfl rfl hl.1 (Nat.le_of_ble_eq_true rfl) ⟨Nat.le_of_ble_eq_true rfl, Nat.le_of_ble_eq_true rfl⟩ (fun u34 z33 H locs h hP hD hS => ?_)
      try dsimp only at h hP hD
      exact ret u34 (z33, T) H locs 14 ls h rfl hP hD hS dX3_missing_14
abbrev rX3_minutesOfAllTogether : Room := { frames := 3, cells := 0, slots := 0, locals := 69 }
set_option maxHeartbeats 4000000 in
set_option maxRecDepth 20000 in
theorem c_X3_minutesOfAllTogether (l : Launch) (D : va_G) (cy : ClassId) (aO : Nat → Nat) (aL : Nat → Nat) (aN : Nat → Nat) (aT : Nat → Nat) (aK : Nat → Nat) (aI : Nat → Nat) (o : AR) (rw : AR) (rf : AR) (lg : AR) (sg : AR) (N : MS) (T : MS) (K : MS) (I : MS) (Q : Int → MS → Prop) (h : wX3_minutesOfAllTogether T Q) : MetI l yX3_minutesOfAllTogether (wT yX3_minutesOfAllTogether cX3_minutesOfAllTogether 3 (some .int)) rX3_minutesOfAllTogether D cy [.ref (aO 0)] (wGh cy aO aL aN aT aK aI o rw rf lg sg N T K I) (fun u : MS => wGh cy aO aL aN aT aK aI o rw rf lg sg N u K I) (fun r u => Q r u) := by
  refine gI_I (by decide) (Nat.le_of_ble_eq_true rfl) ?_
  intro p e s m args below meth c A Qg F hK hA ret H locs ls hl hP hD hS
  have F : CallFix p m c cX3_minutesOfAllTogether 3 s args gT RX3 := F
  have hl : lv_has ls 3 [(0, .ref (aO 0))] := hl
  have L4 : ∀ (n : Nat) (y1 : Int) (y2 : Int) (T : MS) (H : Heap) (locs : List Loc) (ls : Array Slot), wX3_minutesOfAllTogether_4 Q n y1 y2 T → va_P D vwCl (wGh cy aO aL aN aT aK aI o rw rf lg sg N T K I) H → va_D A (wGh cy aO aL aN aT aK aI o rw rf lg sg N T K I) → va_S A s.heap H locs → lv_has ls 3 [(0, .ref (aO 0)), (1, .int (iI y1)), (2, .int (iI y2))] → W p l e rX3_minutesOfAllTogether s m args below meth c H locs 0 0 Qg (F0 m 4 ls []) := by
    intro  n
    induction n with
    | zero => intro _ _ _ _ _ _ h; exact h.elim
    | succ n ih =>
      intro y1 y2 T H locs ls h hP hD hS hl
      rw [wX3_minutesOfAllTogether_4_s] at h
      refine lv_iload_n F.1 F.2.1 dX3_minutesOfAllTogether_4 rfl (lv_at hl 2 rfl) ?_
      refine gv_bipush F ⟨by decide, by decide⟩ dX3_minutesOfAllTogether_5 ?_
      obtain ⟨g1, h⟩ := h
      refine gv_icmp_ge (tgt := 33) F g1 ⟨by decide, by decide⟩ dX3_minutesOfAllTogether_7 (by decide) (fun c2 => ?_) (fun c2 => ?_)
      · have h := h.1 c2
        refine lv_iload_n F.1 F.2.1 dX3_minutesOfAllTogether_33 rfl (lv_at hl 1 rfl) ?_
        exact ret y1 T H locs 34 ls h rfl hP hD hS dX3_minutesOfAllTogether_34
      · have h := h.2 c2
        refine lv_iload_n F.1 F.2.1 dX3_minutesOfAllTogether_10 rfl (lv_at hl 1 rfl) ?_
        refine lv_aload_n F.1 F.2.1 dX3_minutesOfAllTogether_11 rfl (lv_at hl 0 rfl) ?_
        refine gv_get F hin3 hK hP 0 rfl rfl 1 (by decide) k189 rfl dX3_minutesOfAllTogether_12 ?_
        refine gc_VR (As := []) F hK hA hP hS (cp_gh_T hP) (c_X1_undone l D cy aT T _ h) (cwV 0 F.2.2.2.2 (gG_V k588 k589 k590 k62 k591) rfl rfl rfl hd_X1_undone ⟨Nat.le_of_ble_eq_true rfl, Nat.le_of_ble_eq_true rfl⟩) rfl rfl dX3_minutesOfAllTogether_15 rfl rfl hl.1 (Nat.le_of_ble_eq_true rfl) ⟨Nat.le_of_ble_eq_true rfl, Nat.le_of_ble_eq_true rfl⟩ (fun u3 H locs h hP hS => ?_)
        refine gv_iadd F dX3_minutesOfAllTogether_18 ?_
        refine gv_name (fun v4 ev4 => ?_)
        have h := h v4 ev4
        refine lv_istore_n (lv' := [(1, .int (iI v4)), (0, .ref (aO 0)), (2, .int (iI y2))]) F.1 F.2.1 dX3_minutesOfAllTogether_19 rfl hl (by decide) rfl (fun ls hl => ?_)
        refine lv_aload_n F.1 F.2.1 dX3_minutesOfAllTogether_20 rfl (lv_at hl 1 rfl) ?_
        refine gv_get F hin3 hK hP 0 rfl rfl 1 (by decide) k189 rfl dX3_minutesOfAllTogether_21 ?_
        refine gc_VV (As := []) (wn := fun u : MS => wGh cy aO aL aN aT aK aI o rw rf lg sg N u K I) F hK hA hP hD hS (cp_gh_T hP) (cd_gh_T hD) (fun u H1 hk h1 _ => cj_gh_T hP hD u H1 hk h1) (c_X1_passMinute l D cy aT T _ h) (cwV 0 F.2.2.2.2 (gG_V k572 k436 k437 k62 k438) rfl rfl rfl hd_X1_passMinute ⟨Nat.le_of_ble_eq_true rfl, Nat.le_of_ble_eq_true rfl⟩) rfl rfl dX3_minutesOfAllTogether_24 rfl rfl hl.1 (Nat.le_of_ble_eq_true rfl) ⟨Nat.le_of_ble_eq_true rfl, Nat.le_of_ble_eq_true rfl⟩ (fun z5 H locs h hP hD hS => ?_)
        try dsimp only at h hP hD
        obtain ⟨v6, ev6⟩ : ∃ z : Int, z = y2 + 1 := ⟨_, rfl⟩
        have h := h v6 ev6
        refine gv_iinc (lv' := [(2, .int (iI v6)), (1, .int (iI v4)), (0, .ref (aO 0))]) F dX3_minutesOfAllTogether_27 hl (k := 2) rfl ev6 (by decide) rfl (fun ls hl => ?_)
        refine lv_goto (tgt := 4) F.1 F.2.1 dX3_minutesOfAllTogether_30 (by decide) ?_
        exact ih v4 v6 z5 H locs ls h hP hD hS (lv_sub hl [2, 1, 0] rfl)
  refine gv_iconst F dX3_minutesOfAllTogether_0 ?_
  refine lv_istore_n (lv' := [(1, .int (iI 0)), (0, .ref (aO 0))]) F.1 F.2.1 dX3_minutesOfAllTogether_1 rfl hl (by decide) rfl (fun ls hl => ?_)
  refine gv_iconst F dX3_minutesOfAllTogether_2 ?_
  refine lv_istore_n (lv' := [(2, .int (iI 0)), (1, .int (iI 0)), (0, .ref (aO 0))]) F.1 F.2.1 dX3_minutesOfAllTogether_3 rfl hl (by decide) rfl (fun ls hl => ?_)
  obtain ⟨n7, h⟩ := h
  exact L4 n7 0 0 T H locs ls h hP hD hS (lv_sub hl [2, 1, 0] rfl)
abbrev rX3_worth : Room := { frames := 4, cells := 0, slots := 0, locals := 91 }
set_option maxHeartbeats 4000000 in
set_option maxRecDepth 20000 in
theorem c_X3_worth (l : Launch) (D : va_G) (cy : ClassId) (aO : Nat → Nat) (aL : Nat → Nat) (aN : Nat → Nat) (aT : Nat → Nat) (aK : Nat → Nat) (aI : Nat → Nat) (o : AR) (rw : AR) (rf : AR) (lg : AR) (sg : AR) (N : MS) (T : MS) (K : MS) (I : MS) (x1 : Int) (Q : Int → AR → MS → Prop) (h : wX3_worth rf N T x1 Q) : MetI l yX3_worth (wT yX3_worth cX3_worth 3 (some .int)) rX3_worth D cy [.ref (aO 0), .int (iI x1)] (wGh cy aO aL aN aT aK aI o rw rf lg sg N T K I) (fun u : AR × MS => wGh cy aO aL aN aT aK aI o rw u.1 lg sg N u.2 K I) (fun r u => Q r u.1 u.2) := by
  refine gI_I (by decide) (Nat.le_of_ble_eq_true rfl) ?_
  intro p e s m args below meth c A Qg F hK hA ret H locs ls hl hP hD hS
  have F : CallFix p m c cX3_worth 3 s args gT RX3 := F
  have hl : lv_has ls 3 [(0, .ref (aO 0)), (1, .int (iI x1))] := hl
  refine lv_aload_n F.1 F.2.1 dX3_worth_0 rfl (lv_at hl 0 rfl) ?_
  refine lv_iload_n F.1 F.2.1 dX3_worth_1 rfl (lv_at hl 1 rfl) ?_
  refine gc_VR (As := [.int (iI x1)]) F hK hA hP hS hP (c_X3_noQuestion l D cy aO aL aN aT aK aI o rw rf lg sg N T K I x1 _ h) (cwV 1 F.2.2.2.2 (gG_V k419 k421 k12 k61 k422) rfl rfl rfl hd_X3_noQuestion ⟨Nat.le_of_ble_eq_true rfl, Nat.le_of_ble_eq_true rfl⟩) rfl rfl dX3_worth_2 rfl rfl hl.1 (Nat.le_of_ble_eq_true rfl) ⟨Nat.le_of_ble_eq_true rfl, Nat.le_of_ble_eq_true rfl⟩ (fun u1 H locs h hP hS => ?_)
  obtain ⟨bu1, h⟩ := h
  refine gv_if_eq (tgt := 17) F (gRb bu1) dX3_worth_5 (by decide) (fun c2 => ?_) (fun c2 => ?_)
  · have h := h.1 c2
    refine lv_aload_n F.1 F.2.1 dX3_worth_17 rfl (lv_at hl 0 rfl) ?_
    refine gc_VV (As := []) (wn := fun u : MS => wGh cy aO aL aN aT aK aI o rw rf lg sg N u K I) F hK hA hP hD hS hP hD (fun u H1 _ h1 h2 => ⟨h1, h2⟩) (c_X3_think l D cy aO aL aN aT aK aI o rw rf lg sg N T K I _ h) (cwV 0 F.2.2.2.2 (gG_V k539 k541 k19 k61 k542) rfl rfl rfl hd_X3_think ⟨Nat.le_of_ble_eq_true rfl, Nat.le_of_ble_eq_true rfl⟩) rfl rfl dX3_worth_18 rfl rfl hl.1 (Nat.le_of_ble_eq_true rfl) ⟨Nat.le_of_ble_eq_true rfl, Nat.le_of_ble_eq_true rfl⟩ (fun z3 H locs h hP hD hS => ?_)
    try dsimp only at h hP hD
    refine lv_aload_n F.1 F.2.1 dX3_worth_21 rfl (lv_at hl 0 rfl) ?_
    refine gc_VI (As := []) (wn := fun u : MS => wGh cy aO aL aN aT aK aI o rw rf lg sg N u K I) F hK hA hP hD hS hP hD (fun u H1 _ h1 h2 => ⟨h1, h2⟩) (c_X3_minutesOfAllTogether l D cy aO aL aN aT aK aI o rw rf lg sg N z3 K I _ h) (cwV 0 F.2.2.2.2 (gG_V k667 k669 k29 k61 k670) rfl rfl rfl hd_X3_minutesOfAllTogether ⟨Nat.le_of_ble_eq_true rfl, Nat.le_of_ble_eq_true rfl⟩) rfl rfl dX3_worth_22 rfl rfl hl.1 (Nat.le_of_ble_eq_true rfl) ⟨Nat.le_of_ble_eq_true rfl, Nat.le_of_ble_eq_true rfl⟩ (fun u5 z4 H locs h hP hD hS => ?_)
    try dsimp only at h hP hD
    refine lv_istore_n (lv' := [(2, .int (iI u5)), (0, .ref (aO 0)), (1, .int (iI x1))]) F.1 F.2.1 dX3_worth_25 rfl hl (by decide) rfl (fun ls hl => ?_)
    refine lv_aload_n F.1 F.2.1 dX3_worth_26 rfl (lv_at hl 1 rfl) ?_
    refine gc_VV (As := []) (wn := fun u : MS => wGh cy aO aL aN aT aK aI o rw rf lg sg N u K I) F hK hA hP hD hS hP hD (fun u H1 _ h1 h2 => ⟨h1, h2⟩) (c_X3_think l D cy aO aL aN aT aK aI o rw rf lg sg N z4 K I _ h) (cwV 0 F.2.2.2.2 (gG_V k539 k541 k19 k61 k542) rfl rfl rfl hd_X3_think ⟨Nat.le_of_ble_eq_true rfl, Nat.le_of_ble_eq_true rfl⟩) rfl rfl dX3_worth_27 rfl rfl hl.1 (Nat.le_of_ble_eq_true rfl) ⟨Nat.le_of_ble_eq_true rfl, Nat.le_of_ble_eq_true rfl⟩ (fun z6 H locs h hP hD hS => ?_)
    try dsimp only at h hP hD
    refine lv_aload_n F.1 F.2.1 dX3_worth_30 rfl (lv_at hl 1 rfl) ?_
    refine gv_get F hin3 hK hP 0 rfl rfl 1 (by decide) k189 rfl dX3_worth_31 ?_
    refine lv_iload_n F.1 F.2.1 dX3_worth_34 rfl (lv_at hl 2 rfl) ?_
    refine gc_VV (As := [.int (iI x1)]) (wn := fun u : MS => wGh cy aO aL aN aT aK aI o rw rf lg sg N u K I) F hK hA hP hD hS (cp_gh_T hP) (cd_gh_T hD) (fun u H1 hk h1 _ => cj_gh_T hP hD u H1 hk h1) (c_X1_fillTruth l D cy aT z6 x1 _ h) (cwV 1 F.2.2.2.2 (gG_V k646 k647 k648 k62 k649) rfl rfl rfl hd_X1_fillTruth ⟨Nat.le_of_ble_eq_true rfl, Nat.le_of_ble_eq_true rfl⟩) rfl rfl dX3_worth_35 rfl rfl hl.1 (Nat.le_of_ble_eq_true rfl) ⟨Nat.le_of_ble_eq_true rfl, Nat.le_of_ble_eq_true rfl⟩ (fun z7 H locs h hP hD hS => ?_)
    try dsimp only at h hP hD
    refine lv_iload_n F.1 F.2.1 dX3_worth_38 rfl (lv_at hl 0 rfl) ?_
    refine lv_aload_n F.1 F.2.1 dX3_worth_39 rfl (lv_at hl 1 rfl) ?_
    refine gc_VI (As := []) (wn := fun u : MS => wGh cy aO aL aN aT aK aI o rw rf lg sg N u K I) F hK hA hP hD hS hP hD (fun u H1 _ h1 h2 => ⟨h1, h2⟩) (c_X3_minutesOfAllTogether l D cy aO aL aN aT aK aI o rw rf lg sg N z7 K I _ h) (cwV 0 F.2.2.2.2 (gG_V k667 k669 k29 k61 k670) rfl rfl rfl hd_X3_minutesOfAllTogether ⟨Nat.le_of_ble_eq_true rfl, Nat.le_of_ble_eq_true rfl⟩) rfl rfl dX3_worth_40 rfl rfl hl.1 (Nat.le_of_ble_eq_true rfl) ⟨Nat.le_of_ble_eq_true rfl, Nat.le_of_ble_eq_true rfl⟩ (fun u9 z8 H locs h hP hD hS => ?_)
    try dsimp only at h hP hD
    refine gv_isub F dX3_worth_43 ?_
    exact ret (u5 - u9) (rf, z8) H locs 44 ls h rfl hP hD hS dX3_worth_44
  · have h := h.2 c2
    refine gv_ldc (n := 1000000000) F k666 rfl dX3_worth_8 ?_
    refine lv_aload_n F.1 F.2.1 dX3_worth_10 rfl (lv_at hl 0 rfl) ?_
    refine gv_iconst F dX3_worth_11 ?_
    refine gc_VI (As := [.int (iI (-1))]) (wn := fun u : AR => wGh cy aO aL aN aT aK aI o rw u lg sg N T K I) F hK hA hP hD hS hP hD (fun u H1 _ h1 h2 => ⟨h1, h2⟩) (c_X3_refuse l D cy aO aL aN aT aK aI o rw rf lg sg N T K I (-1) _ h) (cwV 1 F.2.2.2.2 (gG_V k220 k222 k2 k61 k223) rfl rfl rfl hd_X3_refuse ⟨Nat.le_of_ble_eq_true rfl, Nat.le_of_ble_eq_true rfl⟩) rfl rfl dX3_worth_12 rfl rfl hl.1 (Nat.le_of_ble_eq_true rfl) ⟨Nat.le_of_ble_eq_true rfl, Nat.le_of_ble_eq_true rfl⟩ (fun u11 z10 H locs h hP hD hS => ?_)
    try dsimp only at h hP hD
    refine gv_isub F dX3_worth_15 ?_
    exact ret (1000000000 - u11) (z10, T) H locs 16 ls h rfl hP hD hS dX3_worth_16
abbrev rX3_firstChosen : Room := { frames := 0, cells := 0, slots := 0, locals := 0 }
set_option maxHeartbeats 4000000 in
set_option maxRecDepth 20000 in
theorem c_X3_firstChosen (l : Launch) (D : va_G) (cy : ClassId) (aO : Nat → Nat) (aL : Nat → Nat) (aN : Nat → Nat) (aT : Nat → Nat) (aK : Nat → Nat) (aI : Nat → Nat) (o : AR) (rw : AR) (rf : AR) (lg : AR) (sg : AR) (N : MS) (T : MS) (K : MS) (I : MS) (x1 x2 : Int) (Q : Int → Prop) (h : wX3_firstChosen N x1 x2 Q) : MetR l yX3_firstChosen (wT yX3_firstChosen cX3_firstChosen 3 (some .int)) rX3_firstChosen D cy [.ref (aO 0), .int (iI x1), .int (iI x2)] (wGh cy aO aL aN aT aK aI o rw rf lg sg N T K I) Q := by
  refine gI_R (by decide) (Nat.le_of_ble_eq_true rfl) ?_
  intro p e s m args below meth c A Qg F hK hA ret H locs ls hl hP hS
  have F : CallFix p m c cX3_firstChosen 3 s args gT RX3 := F
  have hl : lv_has ls 3 [(0, .ref (aO 0)), (1, .int (iI x1)), (2, .int (iI x2))] := hl
  refine lv_aload_n F.1 F.2.1 dX3_firstChosen_0 rfl (lv_at hl 0 rfl) ?_
  refine gv_get F hin3 hK hP 0 rfl rfl 0 (by decide) k188 rfl dX3_firstChosen_1 ?_
  refine gv_get F hin1 hK (cp_gh_N hP) 0 rfl rfl 10 (by decide) k137 rfl dX3_firstChosen_4 ?_
  refine lv_iload_n F.1 F.2.1 dX3_firstChosen_7 rfl (lv_at hl 1 rfl) ?_
  obtain ⟨g1, h⟩ := h
  refine gv_iald (n := 5) (g := (N 10)) F hK (cp_gh_N hP) 10 rfl rfl (by decide) g1 dX3_firstChosen_8 ?_
  refine lv_iload_n F.1 F.2.1 dX3_firstChosen_9 rfl (lv_at hl 2 rfl) ?_
  refine gv_iadd F dX3_firstChosen_10 ?_
  refine gv_bipush F ⟨by decide, by decide⟩ dX3_firstChosen_11 ?_
  obtain ⟨g2, h⟩ := h
  refine gv_irem F ⟨g2, by decide, by decide⟩ dX3_firstChosen_13 ?_
  exact ret ((((N 10) x1) + x2) % 8) H locs 14 ls h rfl hS dX3_firstChosen_14
abbrev rX3_minutesByChoice : Room := { frames := 4, cells := 0, slots := 0, locals := 91 }
set_option maxHeartbeats 4000000 in
set_option maxRecDepth 20000 in
theorem c_X3_minutesByChoice (l : Launch) (D : va_G) (cy : ClassId) (aO : Nat → Nat) (aL : Nat → Nat) (aN : Nat → Nat) (aT : Nat → Nat) (aK : Nat → Nat) (aI : Nat → Nat) (o : AR) (rw : AR) (rf : AR) (lg : AR) (sg : AR) (N : MS) (T : MS) (K : MS) (I : MS) (x1 x2 x3 x4 : Int) (Q : Int → MS → Prop) (h : wX3_minutesByChoice N T x1 x2 x3 x4 Q) : MetI l yX3_minutesByChoice (wT yX3_minutesByChoice cX3_minutesByChoice 5 (some .int)) rX3_minutesByChoice D cy [.ref (aO 0), .int (iI x1), .int (iI x2), .int (iI x3), .int (iI x4)] (wGh cy aO aL aN aT aK aI o rw rf lg sg N T K I) (fun u : MS => wGh cy aO aL aN aT aK aI o rw rf lg sg N u K I) (fun r u => Q r u) := by
  refine gI_I (by decide) (Nat.le_of_ble_eq_true rfl) ?_
  intro p e s m args below meth c A Qg F hK hA ret H locs ls hl hP hD hS
  have F : CallFix p m c cX3_minutesByChoice 5 s args gT RX3 := F
  have hl : lv_has ls 5 [(0, .ref (aO 0)), (1, .int (iI x1)), (2, .int (iI x2)), (3, .int (iI x3)), (4, .int (iI x4))] := hl
  refine lv_aload_n F.1 F.2.1 dX3_minutesByChoice_0 rfl (lv_at hl 0 rfl) ?_
  refine gc_VV (As := []) (wn := fun u : MS => wGh cy aO aL aN aT aK aI o rw rf lg sg N u K I) F hK hA hP hD hS hP hD (fun u H1 _ h1 h2 => ⟨h1, h2⟩) (c_X3_think l D cy aO aL aN aT aK aI o rw rf lg sg N T K I _ h) (cwV 0 F.2.2.2.2 (gG_V k539 k541 k19 k61 k542) rfl rfl rfl hd_X3_think ⟨Nat.le_of_ble_eq_true rfl, Nat.le_of_ble_eq_true rfl⟩) rfl rfl dX3_minutesByChoice_1 rfl rfl hl.1 (Nat.le_of_ble_eq_true rfl) ⟨Nat.le_of_ble_eq_true rfl, Nat.le_of_ble_eq_true rfl⟩ (fun z1 H locs h hP hD hS => ?_)
  try dsimp only at h hP hD
  refine lv_aload_n F.1 F.2.1 dX3_minutesByChoice_4 rfl (lv_at hl 0 rfl) ?_
  refine gv_get F hin3 hK hP 0 rfl rfl 1 (by decide) k189 rfl dX3_minutesByChoice_5 ?_
  refine gv_get F hin1 hK (cp_gh_T hP) 0 rfl rfl 10 (by decide) k137 rfl dX3_minutesByChoice_8 ?_
  refine lv_iload_n F.1 F.2.1 dX3_minutesByChoice_11 rfl (lv_at hl 1 rfl) ?_
  refine lv_aload_n F.1 F.2.1 dX3_minutesByChoice_12 rfl (lv_at hl 0 rfl) ?_
  refine lv_iload_n F.1 F.2.1 dX3_minutesByChoice_13 rfl (lv_at hl 1 rfl) ?_
  refine lv_iload_n F.1 F.2.1 dX3_minutesByChoice_14 rfl (lv_at hl 2 rfl) ?_
  refine gc_VR (As := [.int (iI x1), .int (iI x2)]) F hK hA hP hS hP (c_X3_firstChosen l D cy aO aL aN aT aK aI o rw rf lg sg N z1 K I x1 x2 _ h) (cwV 2 F.2.2.2.2 (gG_V k683 k685 k32 k61 k686) rfl rfl rfl hd_X3_firstChosen ⟨Nat.le_of_ble_eq_true rfl, Nat.le_of_ble_eq_true rfl⟩) rfl rfl dX3_minutesByChoice_15 rfl rfl hl.1 (Nat.le_of_ble_eq_true rfl) ⟨Nat.le_of_ble_eq_true rfl, Nat.le_of_ble_eq_true rfl⟩ (fun u2 H locs h hP hS => ?_)
  obtain ⟨g3, h⟩ := h
  obtain ⟨z4, ez4⟩ : ∃ z : MS, z = st z1 10 x1 u2 := ⟨_, rfl⟩
  have h := h z4 ez4
  refine gv_iast (n := 5) (g := (z1 10)) (ws' := wGh cy aO aL aN aT aK aI o rw rf lg sg N z4 K I) F hK hP hD hS 30 rfl rfl (by decide) g3 (by subst ez4; exact wGh_stT 10 (by decide) 5 rfl _ _) dX3_minutesByChoice_18 (fun H locs hP hD hS => ?_)
  refine lv_aload_n F.1 F.2.1 dX3_minutesByChoice_19 rfl (lv_at hl 0 rfl) ?_
  refine gv_get F hin3 hK hP 0 rfl rfl 1 (by decide) k189 rfl dX3_minutesByChoice_20 ?_
  refine gv_get F hin1 hK (cp_gh_T hP) 0 rfl rfl 10 (by decide) k137 rfl dX3_minutesByChoice_23 ?_
  refine lv_iload_n F.1 F.2.1 dX3_minutesByChoice_26 rfl (lv_at hl 3 rfl) ?_
  refine lv_aload_n F.1 F.2.1 dX3_minutesByChoice_27 rfl (lv_at hl 0 rfl) ?_
  refine lv_iload_n F.1 F.2.1 dX3_minutesByChoice_28 rfl (lv_at hl 3 rfl) ?_
  refine lv_iload F.1 F.2.1 dX3_minutesByChoice_29 (lv_at hl 4 rfl) ?_
  refine gc_VR (As := [.int (iI x3), .int (iI x4)]) F hK hA hP hS hP (c_X3_firstChosen l D cy aO aL aN aT aK aI o rw rf lg sg N z4 K I x3 x4 _ h) (cwV 2 F.2.2.2.2 (gG_V k683 k685 k32 k61 k686) rfl rfl rfl hd_X3_firstChosen ⟨Nat.le_of_ble_eq_true rfl, Nat.le_of_ble_eq_true rfl⟩) rfl rfl dX3_minutesByChoice_31 rfl rfl hl.1 (Nat.le_of_ble_eq_true rfl) ⟨Nat.le_of_ble_eq_true rfl, Nat.le_of_ble_eq_true rfl⟩ (fun u5 H locs h hP hS => ?_)
  obtain ⟨g6, h⟩ := h
  obtain ⟨z7, ez7⟩ : ∃ z : MS, z = st z4 10 x3 u5 := ⟨_, rfl⟩
  have h := h z7 ez7
  refine gv_iast (n := 5) (g := (z4 10)) (ws' := wGh cy aO aL aN aT aK aI o rw rf lg sg N z7 K I) F hK hP hD hS 30 rfl rfl (by decide) g6 (by subst ez7; exact wGh_stT 10 (by decide) 5 rfl _ _) dX3_minutesByChoice_34 (fun H locs hP hD hS => ?_)
  refine lv_aload_n F.1 F.2.1 dX3_minutesByChoice_35 rfl (lv_at hl 0 rfl) ?_
  refine lv_iload_n F.1 F.2.1 dX3_minutesByChoice_36 rfl (lv_at hl 1 rfl) ?_
  refine gc_VI (As := [.int (iI x1)]) (wn := fun u : MS => wGh cy aO aL aN aT aK aI o rw rf lg sg N u K I) F hK hA hP hD hS hP hD (fun u H1 _ h1 h2 => ⟨h1, h2⟩) (c_X3_minutesTillDone l D cy aO aL aN aT aK aI o rw rf lg sg N z7 K I x1 _ h) (cwV 1 F.2.2.2.2 (gG_V k564 k566 k20 k61 k567) rfl rfl rfl hd_X3_minutesTillDone ⟨Nat.le_of_ble_eq_true rfl, Nat.le_of_ble_eq_true rfl⟩) rfl rfl dX3_minutesByChoice_37 rfl rfl hl.1 (Nat.le_of_ble_eq_true rfl) ⟨Nat.le_of_ble_eq_true rfl, Nat.le_of_ble_eq_true rfl⟩ (fun u9 z8 H locs h hP hD hS => ?_)
  try dsimp only at h hP hD
  exact ret u9 z8 H locs 40 ls h rfl hP hD hS dX3_minutesByChoice_40
abbrev rX3_isContent : Room := { frames := 5, cells := 0, slots := 0, locals := 115 }
set_option maxHeartbeats 4000000 in
set_option maxRecDepth 20000 in
theorem c_X3_isContent (l : Launch) (D : va_G) (cy : ClassId) (aO : Nat → Nat) (aL : Nat → Nat) (aN : Nat → Nat) (aT : Nat → Nat) (aK : Nat → Nat) (aI : Nat → Nat) (o : AR) (rw : AR) (rf : AR) (lg : AR) (sg : AR) (N : MS) (T : MS) (K : MS) (I : MS) (x1 x2 x3 x4 : Int) (Q : Int → MS → Prop) (h : wX3_isContent N T x1 x2 x3 x4 Q) : MetI l yX3_isContent (wT yX3_isContent cX3_isContent 5 (some .boolean)) rX3_isContent D cy [.ref (aO 0), .int (iI x1), .int (iI x2), .int (iI x3), .int (iI x4)] (wGh cy aO aL aN aT aK aI o rw rf lg sg N T K I) (fun u : MS => wGh cy aO aL aN aT aK aI o rw rf lg sg N u K I) (fun r u => (r = 0 ∨ r = 1) ∧ Q r u) := by
  refine gI_I (by decide) (Nat.le_of_ble_eq_true rfl) ?_
  intro p e s m args below meth c A Qg F hK hA ret H locs ls hl hP hD hS
  have F : CallFix p m c cX3_isContent 5 s args gT RX3 := F
  have hl : lv_has ls 5 [(0, .ref (aO 0)), (1, .int (iI x1)), (2, .int (iI x2)), (3, .int (iI x3)), (4, .int (iI x4))] := hl
  refine lv_aload_n F.1 F.2.1 dX3_isContent_0 rfl (lv_at hl 0 rfl) ?_
  refine lv_iload_n F.1 F.2.1 dX3_isContent_1 rfl (lv_at hl 1 rfl) ?_
  refine lv_iload_n F.1 F.2.1 dX3_isContent_2 rfl (lv_at hl 2 rfl) ?_
  refine lv_iload_n F.1 F.2.1 dX3_isContent_3 rfl (lv_at hl 3 rfl) ?_
  refine lv_iload F.1 F.2.1 dX3_isContent_4 (lv_at hl 4 rfl) ?_
  refine gc_VI (As := [.int (iI x1), .int (iI x2), .int (iI x3), .int (iI x4)]) (wn := fun u : MS => wGh cy aO aL aN aT aK aI o rw rf lg sg N u K I) F hK hA hP hD hS hP hD (fun u H1 _ h1 h2 => ⟨h1, h2⟩) (c_X3_minutesByChoice l D cy aO aL aN aT aK aI o rw rf lg sg N T K I x1 x2 x3 x4 _ h) (cwV 4 F.2.2.2.2 (gG_V k679 k681 k31 k61 k682) rfl rfl rfl hd_X3_minutesByChoice ⟨Nat.le_of_ble_eq_true rfl, Nat.le_of_ble_eq_true rfl⟩) rfl rfl dX3_isContent_6 rfl rfl hl.1 (Nat.le_of_ble_eq_true rfl) ⟨Nat.le_of_ble_eq_true rfl, Nat.le_of_ble_eq_true rfl⟩ (fun u2 z1 H locs h hP hD hS => ?_)
  try dsimp only at h hP hD
  refine lv_aload_n F.1 F.2.1 dX3_isContent_9 rfl (lv_at hl 0 rfl) ?_
  refine lv_iload_n F.1 F.2.1 dX3_isContent_10 rfl (lv_at hl 1 rfl) ?_
  refine gv_iconst F dX3_isContent_11 ?_
  refine lv_iload_n F.1 F.2.1 dX3_isContent_12 rfl (lv_at hl 2 rfl) ?_
  refine gv_isub F dX3_isContent_13 ?_
  refine lv_iload_n F.1 F.2.1 dX3_isContent_14 rfl (lv_at hl 3 rfl) ?_
  refine lv_iload F.1 F.2.1 dX3_isContent_15 (lv_at hl 4 rfl) ?_
  refine gc_VI (As := [.int (iI x1), .int (iI (1 - x2)), .int (iI x3), .int (iI x4)]) (wn := fun u : MS => wGh cy aO aL aN aT aK aI o rw rf lg sg N u K I) F hK hA hP hD hS hP hD (fun u H1 _ h1 h2 => ⟨h1, h2⟩) (c_X3_minutesByChoice l D cy aO aL aN aT aK aI o rw rf lg sg N z1 K I x1 (1 - x2) x3 x4 _ h) (cwV 4 F.2.2.2.2 (gG_V k679 k681 k31 k61 k682) rfl rfl rfl hd_X3_minutesByChoice ⟨Nat.le_of_ble_eq_true rfl, Nat.le_of_ble_eq_true rfl⟩) rfl rfl dX3_isContent_17 rfl rfl hl.1 (Nat.le_of_ble_eq_true rfl) ⟨Nat.le_of_ble_eq_true rfl, Nat.le_of_ble_eq_true rfl⟩ (fun u4 z3 H locs h hP hD hS => ?_)
  try dsimp only at h hP hD
  obtain ⟨g5, h⟩ := h
  obtain ⟨g6, h⟩ := h
  refine gv_icmp_gt (tgt := 27) F g5 g6 dX3_isContent_20 (by decide) (fun c7 => ?_) (fun c7 => ?_)
  · have h := h.1 c7
    refine gv_iconst F dX3_isContent_27 ?_
    exact ret 0 z3 H locs 28 ls ⟨Or.inl rfl, h⟩ rfl hP hD hS dX3_isContent_28
  · have h := h.2 c7
    refine gv_iconst F dX3_isContent_23 ?_
    refine lv_goto (tgt := 28) F.1 F.2.1 dX3_isContent_24 (by decide) ?_
    exact ret 1 z3 H locs 28 ls ⟨Or.inr rfl, h⟩ rfl hP hD hS dX3_isContent_28
abbrev rX3_two : Room := { frames := 6, cells := 0, slots := 0, locals := 139 }
set_option maxHeartbeats 4000000 in
set_option maxRecDepth 20000 in
theorem c_X3_two (l : Launch) (D : va_G) (cy : ClassId) (aO : Nat → Nat) (aL : Nat → Nat) (aN : Nat → Nat) (aT : Nat → Nat) (aK : Nat → Nat) (aI : Nat → Nat) (o : AR) (rw : AR) (rf : AR) (lg : AR) (sg : AR) (N : MS) (T : MS) (K : MS) (I : MS) (x1 x2 : Int) (Q : Int → AR → MS → Prop) (h : wX3_two rf N T x1 x2 Q) : MetI l yX3_two (wT yX3_two cX3_two 5 (some .int)) rX3_two D cy [.ref (aO 0), .int (iI x1), .int (iI x2)] (wGh cy aO aL aN aT aK aI o rw rf lg sg N T K I) (fun u : AR × MS => wGh cy aO aL aN aT aK aI o rw u.1 lg sg N u.2 K I) (fun r u => Q r u.1 u.2) := by
  refine gI_I (by decide) (Nat.le_of_ble_eq_true rfl) ?_
  intro p e s m args below meth c A Qg F hK hA ret H locs ls hl hP hD hS
  have F : CallFix p m c cX3_two 5 s args gT RX3 := F
  have hl : lv_has ls 5 [(0, .ref (aO 0)), (1, .int (iI x1)), (2, .int (iI x2))] := hl
  have L37 : ∀ (K29 : Int → Int → Int → AR → MS → Prop) (hK29 : ∀ (y1 : Int) (y2 : Int) (y3 : Int) (rf : AR) (T : MS) (H : Heap) (locs : List Loc) (ls : Array Slot), K29 y1 y2 y3 rf T → va_P D vwCl (wGh cy aO aL aN aT aK aI o rw rf lg sg N T K I) H → va_D A (wGh cy aO aL aN aT aK aI o rw rf lg sg N T K I) → va_S A s.heap H locs → lv_has ls 5 [(0, .ref (aO 0)), (1, .int (iI y1)), (2, .int (iI y2)), (3, .int (iI y3))] → W p l e rX3_two s m args below meth c H locs 0 0 Qg (F0 m 29 ls [])) (n : Nat) (y1 : Int) (y2 : Int) (y3 : Int) (y4 : Int) (rf : AR) (T : MS) (H : Heap) (locs : List Loc) (ls : Array Slot), wX3_two_37 N K29 Q n y1 y2 y3 y4 rf T → va_P D vwCl (wGh cy aO aL aN aT aK aI o rw rf lg sg N T K I) H → va_D A (wGh cy aO aL aN aT aK aI o rw rf lg sg N T K I) → va_S A s.heap H locs → lv_has ls 5 [(0, .ref (aO 0)), (1, .int (iI y1)), (2, .int (iI y2)), (3, .int (iI y3)), (4, .int (iI y4))] → W p l e rX3_two s m args below meth c H locs 0 0 Qg (F0 m 37 ls []) := by
    intro K29 hK29 n
    induction n with
    | zero => intro _ _ _ _ _ _ _ _ _ h; exact h.elim
    | succ n ih =>
      intro y1 y2 y3 y4 rf T H locs ls h hP hD hS hl
      rw [wX3_two_37_s] at h
      refine lv_iload F.1 F.2.1 dX3_two_37 (lv_at hl 4 rfl) ?_
      refine gv_iconst F dX3_two_39 ?_
      obtain ⟨g1, h⟩ := h
      refine gv_icmp_ge (tgt := 81) F g1 ⟨by decide, by decide⟩ dX3_two_40 (by decide) (fun c2 => ?_) (fun c2 => ?_)
      · have h := h.1 c2
        obtain ⟨v3, ev3⟩ : ∃ z : Int, z = y3 + 1 := ⟨_, rfl⟩
        have h := h v3 ev3
        refine gv_iinc (lv' := [(3, .int (iI v3)), (0, .ref (aO 0)), (1, .int (iI y1)), (2, .int (iI y2)), (4, .int (iI y4))]) F dX3_two_81 hl (k := 3) rfl ev3 (by decide) rfl (fun ls hl => ?_)
        refine lv_goto (tgt := 29) F.1 F.2.1 dX3_two_84 (by decide) ?_
        exact hK29 y1 y2 v3 rf T H locs ls h hP hD hS (lv_sub hl [1, 2, 3, 0] rfl)
      · have h := h.2 c2
        refine lv_aload_n F.1 F.2.1 dX3_two_43 rfl (lv_at hl 0 rfl) ?_
        refine lv_iload_n F.1 F.2.1 dX3_two_44 rfl (lv_at hl 1 rfl) ?_
        refine lv_iload_n F.1 F.2.1 dX3_two_45 rfl (lv_at hl 3 rfl) ?_
        refine lv_iload_n F.1 F.2.1 dX3_two_46 rfl (lv_at hl 2 rfl) ?_
        refine lv_iload F.1 F.2.1 dX3_two_47 (lv_at hl 4 rfl) ?_
        refine gc_VI (As := [.int (iI y1), .int (iI y3), .int (iI y2), .int (iI y4)]) (wn := fun u : MS => wGh cy aO aL aN aT aK aI o rw rf lg sg N u K I) F hK hA hP hD hS hP hD (fun u H1 _ h1 h2 => ⟨h1, h2⟩) (c_X3_isContent l D cy aO aL aN aT aK aI o rw rf lg sg N T K I y1 y3 y2 y4 _ h) (cwV 4 F.2.2.2.2 (gG_V k675 k677 k30 k61 k678) rfl rfl rfl hd_X3_isContent ⟨Nat.le_of_ble_eq_true rfl, Nat.le_of_ble_eq_true rfl⟩) rfl rfl dX3_two_49 rfl rfl hl.1 (Nat.le_of_ble_eq_true rfl) ⟨Nat.le_of_ble_eq_true rfl, Nat.le_of_ble_eq_true rfl⟩ (fun u5 z4 H locs h hP hD hS => ?_)
        try dsimp only at h hP hD
        obtain ⟨bu5, h⟩ := h
        refine gv_if_eq (tgt := 75) F (gRb bu5) dX3_two_52 (by decide) (fun c6 => ?_) (fun c6 => ?_)
        · have h := h.1 c6
          obtain ⟨v7, ev7⟩ : ∃ z : Int, z = y4 + 1 := ⟨_, rfl⟩
          have h := h v7 ev7
          refine gv_iinc (lv' := [(4, .int (iI v7)), (0, .ref (aO 0)), (1, .int (iI y1)), (2, .int (iI y2)), (3, .int (iI y3))]) F dX3_two_75 hl (k := 4) rfl ev7 (by decide) rfl (fun ls hl => ?_)
          refine lv_goto (tgt := 37) F.1 F.2.1 dX3_two_78 (by decide) ?_
          exact ih y1 y2 y3 v7 rf z4 H locs ls h hP hD hS (lv_sub hl [1, 2, 3, 4, 0] rfl)
        · have h := h.2 c6
          refine lv_aload_n F.1 F.2.1 dX3_two_55 rfl (lv_at hl 0 rfl) ?_
          refine lv_iload_n F.1 F.2.1 dX3_two_56 rfl (lv_at hl 2 rfl) ?_
          refine lv_iload F.1 F.2.1 dX3_two_57 (lv_at hl 4 rfl) ?_
          refine lv_iload_n F.1 F.2.1 dX3_two_59 rfl (lv_at hl 1 rfl) ?_
          refine lv_iload_n F.1 F.2.1 dX3_two_60 rfl (lv_at hl 3 rfl) ?_
          refine gc_VI (As := [.int (iI y2), .int (iI y4), .int (iI y1), .int (iI y3)]) (wn := fun u : MS => wGh cy aO aL aN aT aK aI o rw rf lg sg N u K I) F hK hA hP hD hS hP hD (fun u H1 _ h1 h2 => ⟨h1, h2⟩) (c_X3_isContent l D cy aO aL aN aT aK aI o rw rf lg sg N z4 K I y2 y4 y1 y3 _ h) (cwV 4 F.2.2.2.2 (gG_V k675 k677 k30 k61 k678) rfl rfl rfl hd_X3_isContent ⟨Nat.le_of_ble_eq_true rfl, Nat.le_of_ble_eq_true rfl⟩) rfl rfl dX3_two_61 rfl rfl hl.1 (Nat.le_of_ble_eq_true rfl) ⟨Nat.le_of_ble_eq_true rfl, Nat.le_of_ble_eq_true rfl⟩ (fun u9 z8 H locs h hP hD hS => ?_)
          try dsimp only at h hP hD
          obtain ⟨bu9, h⟩ := h
          refine gv_if_eq (tgt := 75) F (gRb bu9) dX3_two_64 (by decide) (fun c10 => ?_) (fun c10 => ?_)
          · have h := h.1 c10
            obtain ⟨v11, ev11⟩ : ∃ z : Int, z = y4 + 1 := ⟨_, rfl⟩
            have h := h v11 ev11
            refine gv_iinc (lv' := [(4, .int (iI v11)), (0, .ref (aO 0)), (1, .int (iI y1)), (2, .int (iI y2)), (3, .int (iI y3))]) F dX3_two_75 hl (k := 4) rfl ev11 (by decide) rfl (fun ls hl => ?_)
            refine lv_goto (tgt := 37) F.1 F.2.1 dX3_two_78 (by decide) ?_
            exact ih y1 y2 y3 v11 rf z8 H locs ls h hP hD hS (lv_sub hl [1, 2, 3, 4, 0] rfl)
          · have h := h.2 c10
            refine gv_bipush F ⟨by decide, by decide⟩ dX3_two_67 ?_
            refine lv_iload_n F.1 F.2.1 dX3_two_69 rfl (lv_at hl 3 rfl) ?_
            refine gv_imul F dX3_two_70 ?_
            refine lv_iload F.1 F.2.1 dX3_two_71 (lv_at hl 4 rfl) ?_
            refine gv_iadd F dX3_two_73 ?_
            exact ret ((10 * y3) + y4) (rf, z8) H locs 74 ls h rfl hP hD hS dX3_two_74
  have L29 : ∀ (n : Nat) (y1 : Int) (y2 : Int) (y3 : Int) (rf : AR) (T : MS) (H : Heap) (locs : List Loc) (ls : Array Slot), wX3_two_29 N Q n y1 y2 y3 rf T → va_P D vwCl (wGh cy aO aL aN aT aK aI o rw rf lg sg N T K I) H → va_D A (wGh cy aO aL aN aT aK aI o rw rf lg sg N T K I) → va_S A s.heap H locs → lv_has ls 5 [(0, .ref (aO 0)), (1, .int (iI y1)), (2, .int (iI y2)), (3, .int (iI y3))] → W p l e rX3_two s m args below meth c H locs 0 0 Qg (F0 m 29 ls []) := by
    intro  n
    induction n with
    | zero => intro _ _ _ _ _ _ _ _ h; exact h.elim
    | succ n ih =>
      intro y1 y2 y3 rf T H locs ls h hP hD hS hl
      rw [wX3_two_29_s] at h
      refine lv_iload_n F.1 F.2.1 dX3_two_29 rfl (lv_at hl 3 rfl) ?_
      refine gv_iconst F dX3_two_30 ?_
      obtain ⟨g12, h⟩ := h
      refine gv_icmp_ge (tgt := 87) F g12 ⟨by decide, by decide⟩ dX3_two_31 (by decide) (fun c13 => ?_) (fun c13 => ?_)
      · have h := h.1 c13
        refine gv_bipush F ⟨by decide, by decide⟩ dX3_two_87 ?_
        exact ret (-9) (rf, T) H locs 89 ls h rfl hP hD hS dX3_two_89
      · have h := h.2 c13
        refine gv_iconst F dX3_two_34 ?_
        refine lv_istore (lv' := [(4, .int (iI 0)), (0, .ref (aO 0)), (1, .int (iI y1)), (2, .int (iI y2)), (3, .int (iI y3))]) F.1 F.2.1 dX3_two_35 hl (by decide) rfl (fun ls hl => ?_)
        obtain ⟨n14, h⟩ := h
        exact L37 _ ih n14 y1 y2 y3 0 rf T H locs ls h hP hD hS (lv_sub hl [1, 2, 3, 4, 0] rfl)
  refine lv_aload_n F.1 F.2.1 dX3_two_0 rfl (lv_at hl 0 rfl) ?_
  refine lv_iload_n F.1 F.2.1 dX3_two_1 rfl (lv_at hl 1 rfl) ?_
  refine gc_VR (As := [.int (iI x1)]) F hK hA hP hS hP (c_X3_noGroup l D cy aO aL aN aT aK aI o rw rf lg sg N T K I x1 _ h) (cwV 1 F.2.2.2.2 (gG_V k407 k409 k10 k61 k410) rfl rfl rfl hd_X3_noGroup ⟨Nat.le_of_ble_eq_true rfl, Nat.le_of_ble_eq_true rfl⟩) rfl rfl dX3_two_2 rfl rfl hl.1 (Nat.le_of_ble_eq_true rfl) ⟨Nat.le_of_ble_eq_true rfl, Nat.le_of_ble_eq_true rfl⟩ (fun u15 H locs h hP hS => ?_)
  obtain ⟨bu15, h⟩ := h
  refine gv_if_ne (tgt := 21) F (gRb bu15) dX3_two_5 (by decide) (fun c16 => ?_) (fun c16 => ?_)
  · have h := h.1 c16
    refine lv_aload_n F.1 F.2.1 dX3_two_21 rfl (lv_at hl 0 rfl) ?_
    refine gv_iconst F dX3_two_22 ?_
    refine gc_VI (As := [.int (iI (-1))]) (wn := fun u : AR => wGh cy aO aL aN aT aK aI o rw u lg sg N T K I) F hK hA hP hD hS hP hD (fun u H1 _ h1 h2 => ⟨h1, h2⟩) (c_X3_refuse l D cy aO aL aN aT aK aI o rw rf lg sg N T K I (-1) _ h) (cwV 1 F.2.2.2.2 (gG_V k220 k222 k2 k61 k223) rfl rfl rfl hd_X3_refuse ⟨Nat.le_of_ble_eq_true rfl, Nat.le_of_ble_eq_true rfl⟩) rfl rfl dX3_two_23 rfl rfl hl.1 (Nat.le_of_ble_eq_true rfl) ⟨Nat.le_of_ble_eq_true rfl, Nat.le_of_ble_eq_true rfl⟩ (fun u18 z17 H locs h hP hD hS => ?_)
    try dsimp only at h hP hD
    exact ret u18 (z17, T) H locs 26 ls h rfl hP hD hS dX3_two_26
  · have h := h.2 c16
    refine lv_aload_n F.1 F.2.1 dX3_two_8 rfl (lv_at hl 0 rfl) ?_
    refine lv_iload_n F.1 F.2.1 dX3_two_9 rfl (lv_at hl 2 rfl) ?_
    refine gc_VR (As := [.int (iI x2)]) F hK hA hP hS hP (c_X3_noGroup l D cy aO aL aN aT aK aI o rw rf lg sg N T K I x2 _ h) (cwV 1 F.2.2.2.2 (gG_V k407 k409 k10 k61 k410) rfl rfl rfl hd_X3_noGroup ⟨Nat.le_of_ble_eq_true rfl, Nat.le_of_ble_eq_true rfl⟩) rfl rfl dX3_two_10 rfl rfl hl.1 (Nat.le_of_ble_eq_true rfl) ⟨Nat.le_of_ble_eq_true rfl, Nat.le_of_ble_eq_true rfl⟩ (fun u19 H locs h hP hS => ?_)
    obtain ⟨bu19, h⟩ := h
    refine gv_if_ne (tgt := 21) F (gRb bu19) dX3_two_13 (by decide) (fun c20 => ?_) (fun c20 => ?_)
    · have h := h.1 c20
      refine lv_aload_n F.1 F.2.1 dX3_two_21 rfl (lv_at hl 0 rfl) ?_
      refine gv_iconst F dX3_two_22 ?_
      refine gc_VI (As := [.int (iI (-1))]) (wn := fun u : AR => wGh cy aO aL aN aT aK aI o rw u lg sg N T K I) F hK hA hP hD hS hP hD (fun u H1 _ h1 h2 => ⟨h1, h2⟩) (c_X3_refuse l D cy aO aL aN aT aK aI o rw rf lg sg N T K I (-1) _ h) (cwV 1 F.2.2.2.2 (gG_V k220 k222 k2 k61 k223) rfl rfl rfl hd_X3_refuse ⟨Nat.le_of_ble_eq_true rfl, Nat.le_of_ble_eq_true rfl⟩) rfl rfl dX3_two_23 rfl rfl hl.1 (Nat.le_of_ble_eq_true rfl) ⟨Nat.le_of_ble_eq_true rfl, Nat.le_of_ble_eq_true rfl⟩ (fun u22 z21 H locs h hP hD hS => ?_)
      try dsimp only at h hP hD
      exact ret u22 (z21, T) H locs 26 ls h rfl hP hD hS dX3_two_26
    · have h := h.2 c20
      refine lv_iload_n F.1 F.2.1 dX3_two_16 rfl (lv_at hl 1 rfl) ?_
      refine lv_iload_n F.1 F.2.1 dX3_two_17 rfl (lv_at hl 2 rfl) ?_
      obtain ⟨g23, h⟩ := h
      obtain ⟨g24, h⟩ := h
      refine gv_icmp_ne (tgt := 27) F g23 g24 dX3_two_18 (by decide) (fun c25 => ?_) (fun c25 => ?_)
      · have h := h.1 c25
        refine gv_iconst F dX3_two_27 ?_
        refine lv_istore_n (lv' := [(3, .int (iI 0)), (0, .ref (aO 0)), (1, .int (iI x1)), (2, .int (iI x2))]) F.1 F.2.1 dX3_two_28 rfl hl (by decide) rfl (fun ls hl => ?_)
        obtain ⟨n26, h⟩ := h
        exact L29 n26 x1 x2 0 rf T H locs ls h hP hD hS (lv_sub hl [1, 2, 3, 0] rfl)
      · have h := h.2 c25
        refine lv_aload_n F.1 F.2.1 dX3_two_21 rfl (lv_at hl 0 rfl) ?_
        refine gv_iconst F dX3_two_22 ?_
        refine gc_VI (As := [.int (iI (-1))]) (wn := fun u : AR => wGh cy aO aL aN aT aK aI o rw u lg sg N T K I) F hK hA hP hD hS hP hD (fun u H1 _ h1 h2 => ⟨h1, h2⟩) (c_X3_refuse l D cy aO aL aN aT aK aI o rw rf lg sg N T K I (-1) _ h) (cwV 1 F.2.2.2.2 (gG_V k220 k222 k2 k61 k223) rfl rfl rfl hd_X3_refuse ⟨Nat.le_of_ble_eq_true rfl, Nat.le_of_ble_eq_true rfl⟩) rfl rfl dX3_two_23 rfl rfl hl.1 (Nat.le_of_ble_eq_true rfl) ⟨Nat.le_of_ble_eq_true rfl, Nat.le_of_ble_eq_true rfl⟩ (fun u28 z27 H locs h hP hD hS => ?_)
        try dsimp only at h hP hD
        exact ret u28 (z27, T) H locs 26 ls h rfl hP hD hS dX3_two_26
abbrev rX3_newDoor : Room := { frames := 4, cells := 0, slots := 0, locals := 90 }
set_option maxHeartbeats 4000000 in
set_option maxRecDepth 20000 in
theorem c_X3_newDoor (l : Launch) (D : va_G) (cy : ClassId) (aO : Nat → Nat) (aL : Nat → Nat) (aN : Nat → Nat) (aT : Nat → Nat) (aK : Nat → Nat) (aI : Nat → Nat) (o : AR) (rw : AR) (rf : AR) (lg : AR) (sg : AR) (N : MS) (T : MS) (K : MS) (I : MS) (Q : Int → MS → Prop) (h : wX3_newDoor N T Q) : MetI l yX3_newDoor (wT yX3_newDoor cX3_newDoor 6 (some .int)) rX3_newDoor D cy [.ref (aO 0)] (wGh cy aO aL aN aT aK aI o rw rf lg sg N T K I) (fun u : MS => wGh cy aO aL aN aT aK aI o rw rf lg sg N u K I) (fun r u => Q r u) := by
  refine gI_I (by decide) (Nat.le_of_ble_eq_true rfl) ?_
  intro p e s m args below meth c A Qg F hK hA ret H locs ls hl hP hD hS
  have F : CallFix p m c cX3_newDoor 6 s args gT RX3 := F
  have hl : lv_has ls 6 [(0, .ref (aO 0))] := hl
  have L25 : ∀ (K14 : Int → Int → Int → MS → Prop) (hK14 : ∀ (y1 : Int) (y2 : Int) (y3 : Int) (T : MS) (H : Heap) (locs : List Loc) (ls : Array Slot), K14 y1 y2 y3 T → va_P D vwCl (wGh cy aO aL aN aT aK aI o rw rf lg sg N T K I) H → va_D A (wGh cy aO aL aN aT aK aI o rw rf lg sg N T K I) → va_S A s.heap H locs → lv_has ls 6 [(0, .ref (aO 0)), (1, .int (iI y1)), (2, .int (iI y2)), (3, .int (iI y3))] → W p l e rX3_newDoor s m args below meth c H locs 0 0 Qg (F0 m 14 ls [])) (n : Nat) (y1 : Int) (y2 : Int) (y3 : Int) (y4 : Int) (T : MS) (H : Heap) (locs : List Loc) (ls : Array Slot), wX3_newDoor_25 N K14 Q n y1 y2 y3 y4 T → va_P D vwCl (wGh cy aO aL aN aT aK aI o rw rf lg sg N T K I) H → va_D A (wGh cy aO aL aN aT aK aI o rw rf lg sg N T K I) → va_S A s.heap H locs → lv_has ls 6 [(0, .ref (aO 0)), (1, .int (iI y1)), (2, .int (iI y2)), (3, .int (iI y3)), (4, .int (iI y4))] → W p l e rX3_newDoor s m args below meth c H locs 0 0 Qg (F0 m 25 ls []) := by
    intro K14 hK14 n
    induction n with
    | zero => intro _ _ _ _ _ _ _ _ h; exact h.elim
    | succ n ih =>
      intro y1 y2 y3 y4 T H locs ls h hP hD hS hl
      rw [wX3_newDoor_25_s] at h
      refine lv_iload F.1 F.2.1 dX3_newDoor_25 (lv_at hl 4 rfl) ?_
      refine gv_bipush F ⟨by decide, by decide⟩ dX3_newDoor_27 ?_
      obtain ⟨g1, h⟩ := h
      refine gv_icmp_ge (tgt := 97) F g1 ⟨by decide, by decide⟩ dX3_newDoor_29 (by decide) (fun c2 => ?_) (fun c2 => ?_)
      · have h := h.1 c2
        obtain ⟨v3, ev3⟩ : ∃ z : Int, z = y3 + 1 := ⟨_, rfl⟩
        have h := h v3 ev3
        refine gv_iinc (lv' := [(3, .int (iI v3)), (0, .ref (aO 0)), (1, .int (iI y1)), (2, .int (iI y2)), (4, .int (iI y4))]) F dX3_newDoor_97 hl (k := 3) rfl ev3 (by decide) rfl (fun ls hl => ?_)
        refine lv_goto (tgt := 14) F.1 F.2.1 dX3_newDoor_100 (by decide) ?_
        exact hK14 y1 y2 v3 T H locs ls h hP hD hS (lv_sub hl [1, 2, 3, 0] rfl)
      · have h := h.2 c2
        refine lv_aload_n F.1 F.2.1 dX3_newDoor_32 rfl (lv_at hl 0 rfl) ?_
        refine gv_get F hin3 hK hP 0 rfl rfl 0 (by decide) k188 rfl dX3_newDoor_33 ?_
        refine gv_get F hin1 hK (cp_gh_N hP) 0 rfl rfl 0 (by decide) k117 rfl dX3_newDoor_36 ?_
        refine lv_iload_n F.1 F.2.1 dX3_newDoor_39 rfl (lv_at hl 3 rfl) ?_
        refine lv_iload F.1 F.2.1 dX3_newDoor_40 (lv_at hl 4 rfl) ?_
        refine gc_VR (As := [.int (iI y3), .int (iI y4)]) F hK hA hP hS (cp_gh_Nr hP) (c_X2_isOpen l D cy (fun k => aN (k + 1)) (N 2) (N 3) y3 y4 _ h) (cwV 2 F.2.2.2.2 (gG_V k506 k383 k384 k63 k385) rfl rfl rfl hd_X2_isOpen ⟨Nat.le_of_ble_eq_true rfl, Nat.le_of_ble_eq_true rfl⟩) rfl rfl dX3_newDoor_42 rfl rfl hl.1 (Nat.le_of_ble_eq_true rfl) ⟨Nat.le_of_ble_eq_true rfl, Nat.le_of_ble_eq_true rfl⟩ (fun u4 H locs h hP hS => ?_)
        obtain ⟨bu4, h⟩ := h
        refine gv_if_eq (tgt := 51) F (gRb bu4) dX3_newDoor_45 (by decide) (fun c5 => ?_) (fun c5 => ?_)
        · have h := h.1 c5
          refine lv_aload_n F.1 F.2.1 dX3_newDoor_51 rfl (lv_at hl 0 rfl) ?_
          refine gc_VV (As := []) (wn := fun u : MS => wGh cy aO aL aN aT aK aI o rw rf lg sg N u K I) F hK hA hP hD hS hP hD (fun u H1 _ h1 h2 => ⟨h1, h2⟩) (c_X3_think l D cy aO aL aN aT aK aI o rw rf lg sg N T K I _ h) (cwV 0 F.2.2.2.2 (gG_V k539 k541 k19 k61 k542) rfl rfl rfl hd_X3_think ⟨Nat.le_of_ble_eq_true rfl, Nat.le_of_ble_eq_true rfl⟩) rfl rfl dX3_newDoor_52 rfl rfl hl.1 (Nat.le_of_ble_eq_true rfl) ⟨Nat.le_of_ble_eq_true rfl, Nat.le_of_ble_eq_true rfl⟩ (fun z6 H locs h hP hD hS => ?_)
          try dsimp only at h hP hD
          refine lv_aload_n F.1 F.2.1 dX3_newDoor_55 rfl (lv_at hl 0 rfl) ?_
          refine gv_get F hin3 hK hP 0 rfl rfl 1 (by decide) k189 rfl dX3_newDoor_56 ?_
          refine gv_get F hin1 hK (cp_gh_T hP) 0 rfl rfl 0 (by decide) k117 rfl dX3_newDoor_59 ?_
          refine lv_iload_n F.1 F.2.1 dX3_newDoor_62 rfl (lv_at hl 3 rfl) ?_
          refine lv_iload F.1 F.2.1 dX3_newDoor_63 (lv_at hl 4 rfl) ?_
          refine gc_VV (As := [.int (iI y3), .int (iI y4)]) (wn := fun u : AR × AR => wGh cy aO aL aN aT aK aI o rw rf lg sg N (uc (uc z6 2 u.1) 3 u.2) K I) F hK hA hP hD hS (cp_gh_Tr hP) (cd_gh_Tr hD) (fun u H1 hk h1 _ => cj_gh_Tr hP hD u.1 u.2 H1 hk h1) (c_X2_turn l D cy (fun k => aT (k + 1)) (z6 2) (z6 3) y3 y4 _ h) (cwV 2 F.2.2.2.2 (gG_V k378 k379 k380 k63 k381) rfl rfl rfl hd_X2_turn ⟨Nat.le_of_ble_eq_true rfl, Nat.le_of_ble_eq_true rfl⟩) rfl rfl dX3_newDoor_65 rfl rfl hl.1 (Nat.le_of_ble_eq_true rfl) ⟨Nat.le_of_ble_eq_true rfl, Nat.le_of_ble_eq_true rfl⟩ (fun u H locs h hP hD hS => ?_)
          obtain ⟨z7, z8⟩ := u
          try dsimp only at h hP hD
          obtain ⟨z9, ez9⟩ : ∃ z : MS, z = (uc (uc z6 2 z7) 3 z8) := ⟨_, rfl⟩
          have h := h z9 ez9
          rw [← ez9] at hP hD
          refine lv_aload_n F.1 F.2.1 dX3_newDoor_68 rfl (lv_at hl 0 rfl) ?_
          refine gc_VI (As := []) (wn := fun u : MS => wGh cy aO aL aN aT aK aI o rw rf lg sg N u K I) F hK hA hP hD hS hP hD (fun u H1 _ h1 h2 => ⟨h1, h2⟩) (c_X3_minutesTillAllDone l D cy aO aL aN aT aK aI o rw rf lg sg N z9 K I _ h) (cwV 0 F.2.2.2.2 (gG_V k584 k586 k22 k61 k587) rfl rfl rfl hd_X3_minutesTillAllDone ⟨Nat.le_of_ble_eq_true rfl, Nat.le_of_ble_eq_true rfl⟩) rfl rfl dX3_newDoor_69 rfl rfl hl.1 (Nat.le_of_ble_eq_true rfl) ⟨Nat.le_of_ble_eq_true rfl, Nat.le_of_ble_eq_true rfl⟩ (fun u11 z10 H locs h hP hD hS => ?_)
          try dsimp only at h hP hD
          refine lv_istore (lv' := [(5, .int (iI u11)), (0, .ref (aO 0)), (1, .int (iI y1)), (2, .int (iI y2)), (3, .int (iI y3)), (4, .int (iI y4))]) F.1 F.2.1 dX3_newDoor_72 hl (by decide) rfl (fun ls hl => ?_)
          refine lv_iload F.1 F.2.1 dX3_newDoor_74 (lv_at hl 0 rfl) ?_
          refine lv_iload_n F.1 F.2.1 dX3_newDoor_76 rfl (lv_at hl 2 rfl) ?_
          obtain ⟨g12, h⟩ := h
          obtain ⟨g13, h⟩ := h
          refine gv_icmp_ge (tgt := 91) F g12 g13 dX3_newDoor_77 (by decide) (fun c14 => ?_) (fun c14 => ?_)
          · have h := h.1 c14
            obtain ⟨v15, ev15⟩ : ∃ z : Int, z = y4 + 1 := ⟨_, rfl⟩
            have h := h v15 ev15
            refine gv_iinc (lv' := [(4, .int (iI v15)), (5, .int (iI u11)), (0, .ref (aO 0)), (1, .int (iI y1)), (2, .int (iI y2)), (3, .int (iI y3))]) F dX3_newDoor_91 hl (k := 5) rfl ev15 (by decide) rfl (fun ls hl => ?_)
            refine lv_goto (tgt := 25) F.1 F.2.1 dX3_newDoor_94 (by decide) ?_
            exact ih y1 y2 y3 v15 z10 H locs ls h hP hD hS (lv_sub hl [2, 3, 4, 5, 0] rfl)
          · have h := h.2 c14
            refine lv_iload F.1 F.2.1 dX3_newDoor_80 (lv_at hl 0 rfl) ?_
            refine lv_istore_n (lv' := [(1, .int (iI u11)), (5, .int (iI u11)), (0, .ref (aO 0)), (2, .int (iI y2)), (3, .int (iI y3)), (4, .int (iI y4))]) F.1 F.2.1 dX3_newDoor_82 rfl hl (by decide) rfl (fun ls hl => ?_)
            refine gv_bipush F ⟨by decide, by decide⟩ dX3_newDoor_83 ?_
            refine lv_iload_n F.1 F.2.1 dX3_newDoor_85 rfl (lv_at hl 4 rfl) ?_
            refine gv_imul F dX3_newDoor_86 ?_
            refine lv_iload F.1 F.2.1 dX3_newDoor_87 (lv_at hl 5 rfl) ?_
            refine gv_iadd F dX3_newDoor_89 ?_
            refine gv_name (fun v16 ev16 => ?_)
            have h := h v16 ev16
            refine lv_istore_n (lv' := [(2, .int (iI v16)), (1, .int (iI u11)), (5, .int (iI u11)), (0, .ref (aO 0)), (3, .int (iI y3)), (4, .int (iI y4))]) F.1 F.2.1 dX3_newDoor_90 rfl hl (by decide) rfl (fun ls hl => ?_)
            obtain ⟨v17, ev17⟩ : ∃ z : Int, z = y4 + 1 := ⟨_, rfl⟩
            have h := h v17 ev17
            refine gv_iinc (lv' := [(4, .int (iI v17)), (2, .int (iI v16)), (1, .int (iI u11)), (5, .int (iI u11)), (0, .ref (aO 0)), (3, .int (iI y3))]) F dX3_newDoor_91 hl (k := 5) rfl ev17 (by decide) rfl (fun ls hl => ?_)
            refine lv_goto (tgt := 25) F.1 F.2.1 dX3_newDoor_94 (by decide) ?_
            exact ih u11 v16 y3 v17 z10 H locs ls h hP hD hS (lv_sub hl [4, 2, 1, 5, 0] rfl)
        · have h := h.2 c5
          refine lv_goto (tgt := 91) F.1 F.2.1 dX3_newDoor_48 (by decide) ?_
          obtain ⟨v18, ev18⟩ : ∃ z : Int, z = y4 + 1 := ⟨_, rfl⟩
          have h := h v18 ev18
          refine gv_iinc (lv' := [(4, .int (iI v18)), (0, .ref (aO 0)), (1, .int (iI y1)), (2, .int (iI y2)), (3, .int (iI y3))]) F dX3_newDoor_91 hl (k := 4) rfl ev18 (by decide) rfl (fun ls hl => ?_)
          refine lv_goto (tgt := 25) F.1 F.2.1 dX3_newDoor_94 (by decide) ?_
          exact ih y1 y2 y3 v18 T H locs ls h hP hD hS (lv_sub hl [1, 2, 3, 4, 0] rfl)
  have L14 : ∀ (n : Nat) (y1 : Int) (y2 : Int) (y3 : Int) (T : MS) (H : Heap) (locs : List Loc) (ls : Array Slot), wX3_newDoor_14 N Q n y1 y2 y3 T → va_P D vwCl (wGh cy aO aL aN aT aK aI o rw rf lg sg N T K I) H → va_D A (wGh cy aO aL aN aT aK aI o rw rf lg sg N T K I) → va_S A s.heap H locs → lv_has ls 6 [(0, .ref (aO 0)), (1, .int (iI y1)), (2, .int (iI y2)), (3, .int (iI y3))] → W p l e rX3_newDoor s m args below meth c H locs 0 0 Qg (F0 m 14 ls []) := by
    intro  n
    induction n with
    | zero => intro _ _ _ _ _ _ _ h; exact h.elim
    | succ n ih =>
      intro y1 y2 y3 T H locs ls h hP hD hS hl
      rw [wX3_newDoor_14_s] at h
      refine lv_iload_n F.1 F.2.1 dX3_newDoor_14 rfl (lv_at hl 3 rfl) ?_
      refine gv_bipush F ⟨by decide, by decide⟩ dX3_newDoor_15 ?_
      obtain ⟨g19, h⟩ := h
      refine gv_icmp_ge (tgt := 103) F g19 ⟨by decide, by decide⟩ dX3_newDoor_17 (by decide) (fun c20 => ?_) (fun c20 => ?_)
      · have h := h.1 c20
        refine lv_iload_n F.1 F.2.1 dX3_newDoor_103 rfl (lv_at hl 2 rfl) ?_
        exact ret y2 T H locs 104 ls h rfl hP hD hS dX3_newDoor_104
      · have h := h.2 c20
        refine lv_iload_n F.1 F.2.1 dX3_newDoor_20 rfl (lv_at hl 3 rfl) ?_
        refine gv_iconst F dX3_newDoor_21 ?_
        refine gv_iadd F dX3_newDoor_22 ?_
        refine gv_name (fun v21 ev21 => ?_)
        have h := h v21 ev21
        refine lv_istore (lv' := [(4, .int (iI v21)), (0, .ref (aO 0)), (1, .int (iI y1)), (2, .int (iI y2)), (3, .int (iI y3))]) F.1 F.2.1 dX3_newDoor_23 hl (by decide) rfl (fun ls hl => ?_)
        obtain ⟨n22, h⟩ := h
        exact L25 _ ih n22 y1 y2 y3 v21 T H locs ls h hP hD hS (lv_sub hl [1, 2, 3, 4, 0] rfl)
  refine lv_aload_n F.1 F.2.1 dX3_newDoor_0 rfl (lv_at hl 0 rfl) ?_
  refine gc_VV (As := []) (wn := fun u : MS => wGh cy aO aL aN aT aK aI o rw rf lg sg N u K I) F hK hA hP hD hS hP hD (fun u H1 _ h1 h2 => ⟨h1, h2⟩) (c_X3_think l D cy aO aL aN aT aK aI o rw rf lg sg N T K I _ h) (cwV 0 F.2.2.2.2 (gG_V k539 k541 k19 k61 k542) rfl rfl rfl hd_X3_think ⟨Nat.le_of_ble_eq_true rfl, Nat.le_of_ble_eq_true rfl⟩) rfl rfl dX3_newDoor_1 rfl rfl hl.1 (Nat.le_of_ble_eq_true rfl) ⟨Nat.le_of_ble_eq_true rfl, Nat.le_of_ble_eq_true rfl⟩ (fun z23 H locs h hP hD hS => ?_)
  try dsimp only at h hP hD
  refine lv_aload_n F.1 F.2.1 dX3_newDoor_4 rfl (lv_at hl 0 rfl) ?_
  refine gc_VI (As := []) (wn := fun u : MS => wGh cy aO aL aN aT aK aI o rw rf lg sg N u K I) F hK hA hP hD hS hP hD (fun u H1 _ h1 h2 => ⟨h1, h2⟩) (c_X3_minutesTillAllDone l D cy aO aL aN aT aK aI o rw rf lg sg N z23 K I _ h) (cwV 0 F.2.2.2.2 (gG_V k584 k586 k22 k61 k587) rfl rfl rfl hd_X3_minutesTillAllDone ⟨Nat.le_of_ble_eq_true rfl, Nat.le_of_ble_eq_true rfl⟩) rfl rfl dX3_newDoor_5 rfl rfl hl.1 (Nat.le_of_ble_eq_true rfl) ⟨Nat.le_of_ble_eq_true rfl, Nat.le_of_ble_eq_true rfl⟩ (fun u25 z24 H locs h hP hD hS => ?_)
  try dsimp only at h hP hD
  refine lv_istore_n (lv' := [(1, .int (iI u25)), (0, .ref (aO 0))]) F.1 F.2.1 dX3_newDoor_8 rfl hl (by decide) rfl (fun ls hl => ?_)
  refine gv_bipush F ⟨by decide, by decide⟩ dX3_newDoor_9 ?_
  refine lv_istore_n (lv' := [(2, .int (iI (-9))), (1, .int (iI u25)), (0, .ref (aO 0))]) F.1 F.2.1 dX3_newDoor_11 rfl hl (by decide) rfl (fun ls hl => ?_)
  refine gv_iconst F dX3_newDoor_12 ?_
  refine lv_istore_n (lv' := [(3, .int (iI 0)), (2, .int (iI (-9))), (1, .int (iI u25)), (0, .ref (aO 0))]) F.1 F.2.1 dX3_newDoor_13 rfl hl (by decide) rfl (fun ls hl => ?_)
  obtain ⟨n26, h⟩ := h
  exact L14 n26 u25 (-9) 0 z24 H locs ls h hP hD hS (lv_sub hl [3, 2, 1, 0] rfl)
abbrev rX3_rowTellsSheetOf : Room := { frames := 1, cells := 0, slots := 0, locals := 22 }
set_option maxHeartbeats 4000000 in
set_option maxRecDepth 20000 in
theorem c_X3_rowTellsSheetOf (l : Launch) (D : va_G) (cy : ClassId) (aO : Nat → Nat) (aL : Nat → Nat) (aN : Nat → Nat) (aT : Nat → Nat) (aK : Nat → Nat) (aI : Nat → Nat) (o : AR) (rw : AR) (rf : AR) (lg : AR) (sg : AR) (N : MS) (T : MS) (K : MS) (I : MS) (x1 : Int) (Q : Int → Prop) (h : wX3_rowTellsSheetOf o rw T x1 Q) : MetR l yX3_rowTellsSheetOf (wT yX3_rowTellsSheetOf cX3_rowTellsSheetOf 4 (some .boolean)) rX3_rowTellsSheetOf D cy [.ref (aO 0), .int (iI x1)] (wGh cy aO aL aN aT aK aI o rw rf lg sg N T K I) (fun u => (u = 0 ∨ u = 1) ∧ Q u) := by
  refine gI_R (by decide) (Nat.le_of_ble_eq_true rfl) ?_
  intro p e s m args below meth c A Qg F hK hA ret H locs ls hl hP hS
  have F : CallFix p m c cX3_rowTellsSheetOf 4 s args gT RX3 := F
  have hl : lv_has ls 4 [(0, .ref (aO 0)), (1, .int (iI x1))] := hl
  have L2 : ∀ (n : Nat) (y1 : Int) (y2 : Int) (H : Heap) (locs : List Loc) (ls : Array Slot), wX3_rowTellsSheetOf_2 o rw T Q n y1 y2 → va_P D vwCl (wGh cy aO aL aN aT aK aI o rw rf lg sg N T K I) H → va_S A s.heap H locs → lv_has ls 4 [(0, .ref (aO 0)), (1, .int (iI y1)), (2, .int (iI y2))] → W p l e rX3_rowTellsSheetOf s m args below meth c H locs 0 0 Qg (F0 m 2 ls []) := by
    intro  n
    induction n with
    | zero => intro _ _ _ _ _ h; exact h.elim
    | succ n ih =>
      intro y1 y2 H locs ls h hP hS hl
      rw [wX3_rowTellsSheetOf_2_s] at h
      refine lv_iload_n F.1 F.2.1 dX3_rowTellsSheetOf_2 rfl (lv_at hl 2 rfl) ?_
      refine lv_aload_n F.1 F.2.1 dX3_rowTellsSheetOf_3 rfl (lv_at hl 0 rfl) ?_
      refine gv_get F hin3 hK hP 0 rfl rfl 7 (by decide) k195 rfl dX3_rowTellsSheetOf_4 ?_
      obtain ⟨g1, h⟩ := h
      obtain ⟨g2, h⟩ := h
      refine gv_icmp_ge (tgt := 60) F g1 g2 dX3_rowTellsSheetOf_7 (by decide) (fun c3 => ?_) (fun c3 => ?_)
      · have h := h.1 c3
        refine gv_iconst F dX3_rowTellsSheetOf_60 ?_
        exact ret 1 H locs 61 ls ⟨Or.inr rfl, h⟩ rfl hS dX3_rowTellsSheetOf_61
      · have h := h.2 c3
        refine lv_iload_n F.1 F.2.1 dX3_rowTellsSheetOf_10 rfl (lv_at hl 2 rfl) ?_
        refine lv_aload_n F.1 F.2.1 dX3_rowTellsSheetOf_11 rfl (lv_at hl 0 rfl) ?_
        refine gv_get F hin3 hK hP 0 rfl rfl 1 (by decide) k189 rfl dX3_rowTellsSheetOf_12 ?_
        refine gv_get F hin1 hK (cp_gh_T hP) 0 rfl rfl 2 (by decide) k121 rfl dX3_rowTellsSheetOf_15 ?_
        obtain ⟨g4, h⟩ := h
        refine gv_icmp_ge (tgt := 60) F g1 g4 dX3_rowTellsSheetOf_18 (by decide) (fun c5 => ?_) (fun c5 => ?_)
        · have h := h.1 c5
          refine gv_iconst F dX3_rowTellsSheetOf_60 ?_
          exact ret 1 H locs 61 ls ⟨Or.inr rfl, h⟩ rfl hS dX3_rowTellsSheetOf_61
        · have h := h.2 c5
          refine lv_aload_n F.1 F.2.1 dX3_rowTellsSheetOf_21 rfl (lv_at hl 0 rfl) ?_
          refine gv_get F hin3 hK hP 0 rfl rfl 1 (by decide) k189 rfl dX3_rowTellsSheetOf_22 ?_
          refine lv_iload_n F.1 F.2.1 dX3_rowTellsSheetOf_25 rfl (lv_at hl 1 rfl) ?_
          refine lv_iload_n F.1 F.2.1 dX3_rowTellsSheetOf_26 rfl (lv_at hl 2 rfl) ?_
          refine gc_VR (As := [.int (iI y1), .int (iI y2)]) F hK hA hP hS (cp_gh_T hP) (c_X1_answerOf l D cy aT T y1 y2 _ h) (cwV 2 F.2.2.2.2 (gG_V k501 k469 k470 k62 k471) rfl rfl rfl hd_X1_answerOf ⟨Nat.le_of_ble_eq_true rfl, Nat.le_of_ble_eq_true rfl⟩) rfl rfl dX3_rowTellsSheetOf_27 rfl rfl hl.1 (Nat.le_of_ble_eq_true rfl) ⟨Nat.le_of_ble_eq_true rfl, Nat.le_of_ble_eq_true rfl⟩ (fun u6 H locs h hP hS => ?_)
          refine lv_istore_n (lv' := [(3, .int (iI u6)), (0, .ref (aO 0)), (1, .int (iI y1)), (2, .int (iI y2))]) F.1 F.2.1 dX3_rowTellsSheetOf_30 rfl hl (by decide) rfl (fun ls hl => ?_)
          refine lv_aload_n F.1 F.2.1 dX3_rowTellsSheetOf_31 rfl (lv_at hl 1 rfl) ?_
          refine gv_get F hin3 hK hP 0 rfl rfl 6 (by decide) k194 rfl dX3_rowTellsSheetOf_32 ?_
          refine lv_iload_n F.1 F.2.1 dX3_rowTellsSheetOf_35 rfl (lv_at hl 3 rfl) ?_
          obtain ⟨g7, h⟩ := h
          refine gv_iald (n := 12) (g := rw) F hK hP 1 rfl rfl (by decide) g7 dX3_rowTellsSheetOf_36 ?_
          refine lv_iload_n F.1 F.2.1 dX3_rowTellsSheetOf_37 rfl (lv_at hl 0 rfl) ?_
          refine gv_bipush F ⟨by decide, by decide⟩ dX3_rowTellsSheetOf_38 ?_
          obtain ⟨g8, h⟩ := h
          refine gv_icmp_ne (tgt := 48) F g8 ⟨by decide, by decide⟩ dX3_rowTellsSheetOf_40 (by decide) (fun c9 => ?_) (fun c9 => ?_)
          · have h := h.1 c9
            refine lv_iload_n F.1 F.2.1 dX3_rowTellsSheetOf_48 rfl (lv_at hl 0 rfl) ?_
            obtain ⟨g10, h⟩ := h
            refine gv_icmp_eq (tgt := 54) F g10 g8 dX3_rowTellsSheetOf_49 (by decide) (fun c11 => ?_) (fun c11 => ?_)
            · have h := h.1 c11
              obtain ⟨v12, ev12⟩ : ∃ z : Int, z = y2 + 1 := ⟨_, rfl⟩
              have h := h v12 ev12
              refine gv_iinc (lv' := [(2, .int (iI v12)), (3, .int (iI u6)), (0, .ref (aO 0)), (1, .int (iI y1))]) F dX3_rowTellsSheetOf_54 hl (k := 3) rfl ev12 (by decide) rfl (fun ls hl => ?_)
              refine lv_goto (tgt := 2) F.1 F.2.1 dX3_rowTellsSheetOf_57 (by decide) ?_
              exact ih y1 v12 H locs ls h hP hS (lv_sub hl [2, 3, 0] rfl)
            · have h := h.2 c11
              refine gv_iconst F dX3_rowTellsSheetOf_52 ?_
              exact ret 0 H locs 53 ls ⟨Or.inl rfl, h⟩ rfl hS dX3_rowTellsSheetOf_53
          · have h := h.2 c9
            refine gv_bipush F ⟨by decide, by decide⟩ dX3_rowTellsSheetOf_43 ?_
            refine lv_goto (tgt := 49) F.1 F.2.1 dX3_rowTellsSheetOf_45 (by decide) ?_
            obtain ⟨g13, h⟩ := h
            refine gv_icmp_eq (tgt := 54) F g13 ⟨by decide, by decide⟩ dX3_rowTellsSheetOf_49 (by decide) (fun c14 => ?_) (fun c14 => ?_)
            · have h := h.1 c14
              obtain ⟨v15, ev15⟩ : ∃ z : Int, z = y2 + 1 := ⟨_, rfl⟩
              have h := h v15 ev15
              refine gv_iinc (lv' := [(2, .int (iI v15)), (3, .int (iI u6)), (0, .ref (aO 0)), (1, .int (iI y1))]) F dX3_rowTellsSheetOf_54 hl (k := 3) rfl ev15 (by decide) rfl (fun ls hl => ?_)
              refine lv_goto (tgt := 2) F.1 F.2.1 dX3_rowTellsSheetOf_57 (by decide) ?_
              exact ih y1 v15 H locs ls h hP hS (lv_sub hl [2, 3, 0] rfl)
            · have h := h.2 c14
              refine gv_iconst F dX3_rowTellsSheetOf_52 ?_
              exact ret 0 H locs 53 ls ⟨Or.inl rfl, h⟩ rfl hS dX3_rowTellsSheetOf_53
  refine gv_iconst F dX3_rowTellsSheetOf_0 ?_
  refine lv_istore_n (lv' := [(2, .int (iI 0)), (0, .ref (aO 0)), (1, .int (iI x1))]) F.1 F.2.1 dX3_rowTellsSheetOf_1 rfl hl (by decide) rfl (fun ls hl => ?_)
  obtain ⟨n16, h⟩ := h
  exact L2 n16 x1 0 H locs ls h hP hS (lv_sub hl [1, 2, 0] rfl)
abbrev rX3_which : Room := { frames := 4, cells := 0, slots := 0, locals := 91 }
set_option maxHeartbeats 4000000 in
set_option maxRecDepth 20000 in
theorem c_X3_which (l : Launch) (D : va_G) (cy : ClassId) (aO : Nat → Nat) (aL : Nat → Nat) (aN : Nat → Nat) (aT : Nat → Nat) (aK : Nat → Nat) (aI : Nat → Nat) (o : AR) (rw : AR) (rf : AR) (lg : AR) (sg : AR) (N : MS) (T : MS) (K : MS) (I : MS) (x1 x2 x3 : Int) (Q : Int → AR → MS → Prop) (h : wX3_which o rw rf N T x1 x2 x3 Q) : MetI l yX3_which (wT yX3_which cX3_which 7 (some .int)) rX3_which D cy [.ref (aO 0), .int (iI x1), .int (iI x2), .int (iI x3)] (wGh cy aO aL aN aT aK aI o rw rf lg sg N T K I) (fun u : AR × MS => wGh cy aO aL aN aT aK aI o rw u.1 lg sg N u.2 K I) (fun r u => Q r u.1 u.2) := by
  refine gI_I (by decide) (Nat.le_of_ble_eq_true rfl) ?_
  intro p e s m args below meth c A Qg F hK hA ret H locs ls hl hP hD hS
  have F : CallFix p m c cX3_which 7 s args gT RX3 := F
  have hl : lv_has ls 7 [(0, .ref (aO 0)), (1, .int (iI x1)), (2, .int (iI x2)), (3, .int (iI x3))] := hl
  have L118 : ∀ (K78 : Int → Int → Int → Int → Int → Int → AR → MS → Prop) (hK78 : ∀ (y1 : Int) (y2 : Int) (y3 : Int) (y4 : Int) (y5 : Int) (y6 : Int) (rf : AR) (T : MS) (H : Heap) (locs : List Loc) (ls : Array Slot), K78 y1 y2 y3 y4 y5 y6 rf T → va_P D vwCl (wGh cy aO aL aN aT aK aI o rw rf lg sg N T K I) H → va_D A (wGh cy aO aL aN aT aK aI o rw rf lg sg N T K I) → va_S A s.heap H locs → lv_has ls 7 [(0, .ref (aO 0)), (1, .int (iI y1)), (2, .int (iI y2)), (3, .int (iI y3)), (4, .int (iI y4)), (5, .int (iI y5)), (6, .int (iI y6))] → W p l e rX3_which s m args below meth c H locs 0 0 Qg (F0 m 78 ls [])) (y1 : Int) (y2 : Int) (y3 : Int) (y4 : Int) (y5 : Int) (y6 : Int) (rf : AR) (T : MS) (H : Heap) (locs : List Loc) (ls : Array Slot), wX3_which_118 o rw N K78 Q y1 y2 y3 y4 y5 y6 rf T → va_P D vwCl (wGh cy aO aL aN aT aK aI o rw rf lg sg N T K I) H → va_D A (wGh cy aO aL aN aT aK aI o rw rf lg sg N T K I) → va_S A s.heap H locs → lv_has ls 7 [(0, .ref (aO 0)), (1, .int (iI y1)), (2, .int (iI y2)), (3, .int (iI y3)), (4, .int (iI y4)), (5, .int (iI y5)), (6, .int (iI y6))] → W p l e rX3_which s m args below meth c H locs 0 0 Qg (F0 m 118 ls []) := by
    intro K78 hK78
    intro y1 y2 y3 y4 y5 y6 rf T H locs ls h hP hD hS hl
    refine lv_aload_n F.1 F.2.1 dX3_which_118 rfl (lv_at hl 0 rfl) ?_
    refine gv_get F hin3 hK hP 0 rfl rfl 1 (by decide) k189 rfl dX3_which_119 ?_
    refine gv_bipush F ⟨by decide, by decide⟩ dX3_which_122 ?_
    refine gc_VV (As := [.int (iI 99)]) (wn := fun u : MS => wGh cy aO aL aN aT aK aI o rw rf lg sg N u K I) F hK hA hP hD hS (cp_gh_T hP) (cd_gh_T hD) (fun u H1 hk h1 _ => cj_gh_T hP hD u H1 hk h1) (c_X1_passMinutes l D cy aT T 99 _ h) (cwV 1 F.2.2.2.2 (gG_V k431 k432 k433 k62 k434) rfl rfl rfl hd_X1_passMinutes ⟨Nat.le_of_ble_eq_true rfl, Nat.le_of_ble_eq_true rfl⟩) rfl rfl dX3_which_124 rfl rfl hl.1 (Nat.le_of_ble_eq_true rfl) ⟨Nat.le_of_ble_eq_true rfl, Nat.le_of_ble_eq_true rfl⟩ (fun z1 H locs h hP hD hS => ?_)
    try dsimp only at h hP hD
    refine lv_aload_n F.1 F.2.1 dX3_which_127 rfl (lv_at hl 0 rfl) ?_
    refine lv_iload_n F.1 F.2.1 dX3_which_128 rfl (lv_at hl 1 rfl) ?_
    refine gc_VR (As := [.int (iI y1)]) F hK hA hP hS hP (c_X3_rowTellsSheetOf l D cy aO aL aN aT aK aI o rw rf lg sg N z1 K I y1 _ h) (cwV 1 F.2.2.2.2 (gG_V k695 k697 k33 k61 k698) rfl rfl rfl hd_X3_rowTellsSheetOf ⟨Nat.le_of_ble_eq_true rfl, Nat.le_of_ble_eq_true rfl⟩) rfl rfl dX3_which_129 rfl rfl hl.1 (Nat.le_of_ble_eq_true rfl) ⟨Nat.le_of_ble_eq_true rfl, Nat.le_of_ble_eq_true rfl⟩ (fun u2 H locs h hP hS => ?_)
    obtain ⟨bu2, h⟩ := h
    refine gv_if_eq (tgt := 144) F (gRb bu2) dX3_which_132 (by decide) (fun c3 => ?_) (fun c3 => ?_)
    · have h := h.1 c3
      obtain ⟨v4, ev4⟩ : ∃ z : Int, z = y6 + 1 := ⟨_, rfl⟩
      have h := h v4 ev4
      refine gv_iinc (lv' := [(6, .int (iI v4)), (0, .ref (aO 0)), (1, .int (iI y1)), (2, .int (iI y2)), (3, .int (iI y3)), (4, .int (iI y4)), (5, .int (iI y5))]) F dX3_which_144 hl (k := 6) rfl ev4 (by decide) rfl (fun ls hl => ?_)
      refine lv_goto (tgt := 78) F.1 F.2.1 dX3_which_147 (by decide) ?_
      exact hK78 y1 y2 y3 y4 y5 v4 rf z1 H locs ls h hP hD hS (lv_sub hl [1, 2, 3, 4, 5, 6, 0] rfl)
    · have h := h.2 c3
      refine lv_iload F.1 F.2.1 dX3_which_135 (lv_at hl 4 rfl) ?_
      refine gv_iconst F dX3_which_137 ?_
      refine lv_iload F.1 F.2.1 dX3_which_138 (lv_at hl 6 rfl) ?_
      obtain ⟨g5, h⟩ := h
      refine gv_ishl F g5 dX3_which_140 ?_
      obtain ⟨g6, h⟩ := h
      refine gv_ior F g6 dX3_which_141 ?_
      refine gv_name (fun v7 ev7 => ?_)
      have h := h v7 ev7
      refine lv_istore (lv' := [(4, .int (iI v7)), (0, .ref (aO 0)), (1, .int (iI y1)), (2, .int (iI y2)), (3, .int (iI y3)), (5, .int (iI y5)), (6, .int (iI y6))]) F.1 F.2.1 dX3_which_142 hl (by decide) rfl (fun ls hl => ?_)
      obtain ⟨v8, ev8⟩ : ∃ z : Int, z = y6 + 1 := ⟨_, rfl⟩
      have h := h v8 ev8
      refine gv_iinc (lv' := [(6, .int (iI v8)), (4, .int (iI v7)), (0, .ref (aO 0)), (1, .int (iI y1)), (2, .int (iI y2)), (3, .int (iI y3)), (5, .int (iI y5))]) F dX3_which_144 hl (k := 6) rfl ev8 (by decide) rfl (fun ls hl => ?_)
      refine lv_goto (tgt := 78) F.1 F.2.1 dX3_which_147 (by decide) ?_
      exact hK78 y1 y2 y3 v7 y5 v8 rf z1 H locs ls h hP hD hS (lv_sub hl [2, 3, 4, 5, 1, 6, 0] rfl)
  have L78 : ∀ (n : Nat) (y1 : Int) (y2 : Int) (y3 : Int) (y4 : Int) (y5 : Int) (y6 : Int) (rf : AR) (T : MS) (H : Heap) (locs : List Loc) (ls : Array Slot), wX3_which_78 o rw N Q n y1 y2 y3 y4 y5 y6 rf T → va_P D vwCl (wGh cy aO aL aN aT aK aI o rw rf lg sg N T K I) H → va_D A (wGh cy aO aL aN aT aK aI o rw rf lg sg N T K I) → va_S A s.heap H locs → lv_has ls 7 [(0, .ref (aO 0)), (1, .int (iI y1)), (2, .int (iI y2)), (3, .int (iI y3)), (4, .int (iI y4)), (5, .int (iI y5)), (6, .int (iI y6))] → W p l e rX3_which s m args below meth c H locs 0 0 Qg (F0 m 78 ls []) := by
    intro  n
    induction n with
    | zero => intro _ _ _ _ _ _ _ _ _ _ _ h; exact h.elim
    | succ n ih =>
      intro y1 y2 y3 y4 y5 y6 rf T H locs ls h hP hD hS hl
      rw [wX3_which_78_s] at h
      refine lv_iload F.1 F.2.1 dX3_which_78 (lv_at hl 6 rfl) ?_
      refine lv_iload F.1 F.2.1 dX3_which_80 (lv_at hl 5 rfl) ?_
      obtain ⟨g9, h⟩ := h
      obtain ⟨g10, h⟩ := h
      refine gv_icmp_ge (tgt := 150) F g9 g10 dX3_which_82 (by decide) (fun c11 => ?_) (fun c11 => ?_)
      · have h := h.1 c11
        refine lv_iload F.1 F.2.1 dX3_which_150 (lv_at hl 4 rfl) ?_
        exact ret y4 (rf, T) H locs 152 ls h rfl hP hD hS dX3_which_152
      · have h := h.2 c11
        refine lv_aload_n F.1 F.2.1 dX3_which_85 rfl (lv_at hl 0 rfl) ?_
        refine gc_VV (As := []) (wn := fun u : MS => wGh cy aO aL aN aT aK aI o rw rf lg sg N u K I) F hK hA hP hD hS hP hD (fun u H1 _ h1 h2 => ⟨h1, h2⟩) (c_X3_think l D cy aO aL aN aT aK aI o rw rf lg sg N T K I _ h) (cwV 0 F.2.2.2.2 (gG_V k539 k541 k19 k61 k542) rfl rfl rfl hd_X3_think ⟨Nat.le_of_ble_eq_true rfl, Nat.le_of_ble_eq_true rfl⟩) rfl rfl dX3_which_86 rfl rfl hl.1 (Nat.le_of_ble_eq_true rfl) ⟨Nat.le_of_ble_eq_true rfl, Nat.le_of_ble_eq_true rfl⟩ (fun z12 H locs h hP hD hS => ?_)
        try dsimp only at h hP hD
        refine lv_iload_n F.1 F.2.1 dX3_which_89 rfl (lv_at hl 3 rfl) ?_
        obtain ⟨g13, h⟩ := h
        refine gv_if_ne (tgt := 107) F g13 dX3_which_90 (by decide) (fun c14 => ?_) (fun c14 => ?_)
        · have h := h.1 c14
          refine lv_aload_n F.1 F.2.1 dX3_which_107 rfl (lv_at hl 0 rfl) ?_
          refine gv_get F hin3 hK hP 0 rfl rfl 1 (by decide) k189 rfl dX3_which_108 ?_
          refine gv_get F hin1 hK (cp_gh_T hP) 0 rfl rfl 9 (by decide) k135 rfl dX3_which_111 ?_
          refine lv_iload_n F.1 F.2.1 dX3_which_114 rfl (lv_at hl 1 rfl) ?_
          refine lv_iload F.1 F.2.1 dX3_which_115 (lv_at hl 6 rfl) ?_
          obtain ⟨g15, h⟩ := h
          obtain ⟨z16, ez16⟩ : ∃ z : MS, z = st z12 9 y1 y6 := ⟨_, rfl⟩
          have h := h z16 ez16
          refine gv_iast (n := 5) (g := (z12 9)) (ws' := wGh cy aO aL aN aT aK aI o rw rf lg sg N z16 K I) F hK hP hD hS 29 rfl rfl (by decide) g15 (by subst ez16; exact wGh_stT 9 (by decide) 5 rfl _ _) dX3_which_117 (fun H locs hP hD hS => ?_)
          exact L118 _ ih y1 y2 y3 y4 y5 y6 rf z16 H locs ls h hP hD hS (lv_sub hl [0, 1, 2, 3, 4, 5, 6] rfl)
        · have h := h.2 c14
          refine lv_aload_n F.1 F.2.1 dX3_which_93 rfl (lv_at hl 0 rfl) ?_
          refine gv_get F hin3 hK hP 0 rfl rfl 1 (by decide) k189 rfl dX3_which_94 ?_
          refine gv_get F hin1 hK (cp_gh_T hP) 0 rfl rfl 3 (by decide) k123 rfl dX3_which_97 ?_
          refine lv_iload_n F.1 F.2.1 dX3_which_100 rfl (lv_at hl 2 rfl) ?_
          refine lv_iload F.1 F.2.1 dX3_which_101 (lv_at hl 6 rfl) ?_
          obtain ⟨g17, h⟩ := h
          obtain ⟨z18, ez18⟩ : ∃ z : MS, z = st z12 4 y2 y6 := ⟨_, rfl⟩
          have h := h z18 ez18
          refine gv_iast (n := 8) (g := (z12 4)) (ws' := wGh cy aO aL aN aT aK aI o rw rf lg sg N z18 K I) F hK hP hD hS 24 rfl rfl (by decide) g17 (by subst ez18; exact wGh_stT 4 (by decide) 8 rfl _ _) dX3_which_103 (fun H locs hP hD hS => ?_)
          refine lv_goto (tgt := 118) F.1 F.2.1 dX3_which_104 (by decide) ?_
          exact L118 _ ih y1 y2 y3 y4 y5 y6 rf z18 H locs ls h hP hD hS (lv_sub hl [0, 1, 2, 3, 4, 5, 6] rfl)
  refine lv_aload_n F.1 F.2.1 dX3_which_0 rfl (lv_at hl 0 rfl) ?_
  refine lv_iload_n F.1 F.2.1 dX3_which_1 rfl (lv_at hl 1 rfl) ?_
  refine gc_VR (As := [.int (iI x1)]) F hK hA hP hS hP (c_X3_noGroup l D cy aO aL aN aT aK aI o rw rf lg sg N T K I x1 _ h) (cwV 1 F.2.2.2.2 (gG_V k407 k409 k10 k61 k410) rfl rfl rfl hd_X3_noGroup ⟨Nat.le_of_ble_eq_true rfl, Nat.le_of_ble_eq_true rfl⟩) rfl rfl dX3_which_2 rfl rfl hl.1 (Nat.le_of_ble_eq_true rfl) ⟨Nat.le_of_ble_eq_true rfl, Nat.le_of_ble_eq_true rfl⟩ (fun u19 H locs h hP hS => ?_)
  obtain ⟨bu19, h⟩ := h
  refine gv_if_ne (tgt := 16) F (gRb bu19) dX3_which_5 (by decide) (fun c20 => ?_) (fun c20 => ?_)
  · have h := h.1 c20
    refine lv_aload_n F.1 F.2.1 dX3_which_16 rfl (lv_at hl 0 rfl) ?_
    refine gv_iconst F dX3_which_17 ?_
    refine gc_VI (As := [.int (iI (-1))]) (wn := fun u : AR => wGh cy aO aL aN aT aK aI o rw u lg sg N T K I) F hK hA hP hD hS hP hD (fun u H1 _ h1 h2 => ⟨h1, h2⟩) (c_X3_refuse l D cy aO aL aN aT aK aI o rw rf lg sg N T K I (-1) _ h) (cwV 1 F.2.2.2.2 (gG_V k220 k222 k2 k61 k223) rfl rfl rfl hd_X3_refuse ⟨Nat.le_of_ble_eq_true rfl, Nat.le_of_ble_eq_true rfl⟩) rfl rfl dX3_which_18 rfl rfl hl.1 (Nat.le_of_ble_eq_true rfl) ⟨Nat.le_of_ble_eq_true rfl, Nat.le_of_ble_eq_true rfl⟩ (fun u22 z21 H locs h hP hD hS => ?_)
    try dsimp only at h hP hD
    exact ret u22 (z21, T) H locs 21 ls h rfl hP hD hS dX3_which_21
  · have h := h.2 c20
    refine lv_aload_n F.1 F.2.1 dX3_which_8 rfl (lv_at hl 0 rfl) ?_
    refine lv_iload_n F.1 F.2.1 dX3_which_9 rfl (lv_at hl 2 rfl) ?_
    refine gc_VR (As := [.int (iI x2)]) F hK hA hP hS hP (c_X3_noQuestion l D cy aO aL aN aT aK aI o rw rf lg sg N T K I x2 _ h) (cwV 1 F.2.2.2.2 (gG_V k419 k421 k12 k61 k422) rfl rfl rfl hd_X3_noQuestion ⟨Nat.le_of_ble_eq_true rfl, Nat.le_of_ble_eq_true rfl⟩) rfl rfl dX3_which_10 rfl rfl hl.1 (Nat.le_of_ble_eq_true rfl) ⟨Nat.le_of_ble_eq_true rfl, Nat.le_of_ble_eq_true rfl⟩ (fun u23 H locs h hP hS => ?_)
    obtain ⟨bu23, h⟩ := h
    refine gv_if_eq (tgt := 22) F (gRb bu23) dX3_which_13 (by decide) (fun c24 => ?_) (fun c24 => ?_)
    · have h := h.1 c24
      refine lv_iload_n F.1 F.2.1 dX3_which_22 rfl (lv_at hl 3 rfl) ?_
      obtain ⟨g25, h⟩ := h
      refine gv_if_lt (tgt := 31) F g25 dX3_which_23 (by decide) (fun c26 => ?_) (fun c26 => ?_)
      · have h := h.1 c26
        refine lv_aload_n F.1 F.2.1 dX3_which_31 rfl (lv_at hl 0 rfl) ?_
        refine gv_bipush F ⟨by decide, by decide⟩ dX3_which_32 ?_
        refine gc_VI (As := [.int (iI (-2))]) (wn := fun u : AR => wGh cy aO aL aN aT aK aI o rw u lg sg N T K I) F hK hA hP hD hS hP hD (fun u H1 _ h1 h2 => ⟨h1, h2⟩) (c_X3_refuse l D cy aO aL aN aT aK aI o rw rf lg sg N T K I (-2) _ h) (cwV 1 F.2.2.2.2 (gG_V k220 k222 k2 k61 k223) rfl rfl rfl hd_X3_refuse ⟨Nat.le_of_ble_eq_true rfl, Nat.le_of_ble_eq_true rfl⟩) rfl rfl dX3_which_34 rfl rfl hl.1 (Nat.le_of_ble_eq_true rfl) ⟨Nat.le_of_ble_eq_true rfl, Nat.le_of_ble_eq_true rfl⟩ (fun u28 z27 H locs h hP hD hS => ?_)
        try dsimp only at h hP hD
        exact ret u28 (z27, T) H locs 37 ls h rfl hP hD hS dX3_which_37
      · have h := h.2 c26
        refine lv_iload_n F.1 F.2.1 dX3_which_26 rfl (lv_at hl 3 rfl) ?_
        refine gv_iconst F dX3_which_27 ?_
        refine gv_icmp_le (tgt := 38) F g25 ⟨by decide, by decide⟩ dX3_which_28 (by decide) (fun c29 => ?_) (fun c29 => ?_)
        · have h := h.1 c29
          refine lv_aload_n F.1 F.2.1 dX3_which_38 rfl (lv_at hl 0 rfl) ?_
          refine gv_get F hin3 hK hP 0 rfl rfl 7 (by decide) k195 rfl dX3_which_39 ?_
          refine lv_aload_n F.1 F.2.1 dX3_which_42 rfl (lv_at hl 0 rfl) ?_
          refine gv_get F hin3 hK hP 0 rfl rfl 0 (by decide) k188 rfl dX3_which_43 ?_
          refine gv_get F hin1 hK (cp_gh_N hP) 0 rfl rfl 2 (by decide) k121 rfl dX3_which_46 ?_
          obtain ⟨g30, h⟩ := h
          obtain ⟨g31, h⟩ := h
          refine gv_icmp_eq (tgt := 59) F g30 g31 dX3_which_49 (by decide) (fun c32 => ?_) (fun c32 => ?_)
          · have h := h.1 c32
            refine gv_iconst F dX3_which_59 ?_
            refine lv_istore (lv' := [(4, .int (iI 0)), (0, .ref (aO 0)), (1, .int (iI x1)), (2, .int (iI x2)), (3, .int (iI x3))]) F.1 F.2.1 dX3_which_60 hl (by decide) rfl (fun ls hl => ?_)
            refine lv_iload_n F.1 F.2.1 dX3_which_62 rfl (lv_at hl 4 rfl) ?_
            refine gv_if_ne (tgt := 71) F g25 dX3_which_63 (by decide) (fun c33 => ?_) (fun c33 => ?_)
            · have h := h.1 c33
              refine gv_bipush F ⟨by decide, by decide⟩ dX3_which_71 ?_
              refine lv_istore (lv' := [(5, .int (iI 10)), (4, .int (iI 0)), (0, .ref (aO 0)), (1, .int (iI x1)), (2, .int (iI x2)), (3, .int (iI x3))]) F.1 F.2.1 dX3_which_73 hl (by decide) rfl (fun ls hl => ?_)
              refine gv_iconst F dX3_which_75 ?_
              refine lv_istore (lv' := [(6, .int (iI 0)), (5, .int (iI 10)), (4, .int (iI 0)), (0, .ref (aO 0)), (1, .int (iI x1)), (2, .int (iI x2)), (3, .int (iI x3))]) F.1 F.2.1 dX3_which_76 hl (by decide) rfl (fun ls hl => ?_)
              obtain ⟨n34, h⟩ := h
              exact L78 n34 x1 x2 x3 0 10 0 rf T H locs ls h hP hD hS (lv_sub hl [3, 4, 5, 6, 2, 1, 0] rfl)
            · have h := h.2 c33
              refine gv_bipush F ⟨by decide, by decide⟩ dX3_which_66 ?_
              refine lv_goto (tgt := 73) F.1 F.2.1 dX3_which_68 (by decide) ?_
              refine lv_istore (lv' := [(5, .int (iI 6)), (4, .int (iI 0)), (0, .ref (aO 0)), (1, .int (iI x1)), (2, .int (iI x2)), (3, .int (iI x3))]) F.1 F.2.1 dX3_which_73 hl (by decide) rfl (fun ls hl => ?_)
              refine gv_iconst F dX3_which_75 ?_
              refine lv_istore (lv' := [(6, .int (iI 0)), (5, .int (iI 6)), (4, .int (iI 0)), (0, .ref (aO 0)), (1, .int (iI x1)), (2, .int (iI x2)), (3, .int (iI x3))]) F.1 F.2.1 dX3_which_76 hl (by decide) rfl (fun ls hl => ?_)
              obtain ⟨n35, h⟩ := h
              exact L78 n35 x1 x2 x3 0 6 0 rf T H locs ls h hP hD hS (lv_sub hl [3, 4, 5, 6, 2, 1, 0] rfl)
          · have h := h.2 c32
            refine lv_aload_n F.1 F.2.1 dX3_which_52 rfl (lv_at hl 0 rfl) ?_
            refine gv_bipush F ⟨by decide, by decide⟩ dX3_which_53 ?_
            refine gc_VI (As := [.int (iI (-3))]) (wn := fun u : AR => wGh cy aO aL aN aT aK aI o rw u lg sg N T K I) F hK hA hP hD hS hP hD (fun u H1 _ h1 h2 => ⟨h1, h2⟩) (c_X3_refuse l D cy aO aL aN aT aK aI o rw rf lg sg N T K I (-3) _ h) (cwV 1 F.2.2.2.2 (gG_V k220 k222 k2 k61 k223) rfl rfl rfl hd_X3_refuse ⟨Nat.le_of_ble_eq_true rfl, Nat.le_of_ble_eq_true rfl⟩) rfl rfl dX3_which_55 rfl rfl hl.1 (Nat.le_of_ble_eq_true rfl) ⟨Nat.le_of_ble_eq_true rfl, Nat.le_of_ble_eq_true rfl⟩ (fun u37 z36 H locs h hP hD hS => ?_)
            try dsimp only at h hP hD
            exact ret u37 (z36, T) H locs 58 ls h rfl hP hD hS dX3_which_58
        · have h := h.2 c29
          refine lv_aload_n F.1 F.2.1 dX3_which_31 rfl (lv_at hl 0 rfl) ?_
          refine gv_bipush F ⟨by decide, by decide⟩ dX3_which_32 ?_
          refine gc_VI (As := [.int (iI (-2))]) (wn := fun u : AR => wGh cy aO aL aN aT aK aI o rw u lg sg N T K I) F hK hA hP hD hS hP hD (fun u H1 _ h1 h2 => ⟨h1, h2⟩) (c_X3_refuse l D cy aO aL aN aT aK aI o rw rf lg sg N T K I (-2) _ h) (cwV 1 F.2.2.2.2 (gG_V k220 k222 k2 k61 k223) rfl rfl rfl hd_X3_refuse ⟨Nat.le_of_ble_eq_true rfl, Nat.le_of_ble_eq_true rfl⟩) rfl rfl dX3_which_34 rfl rfl hl.1 (Nat.le_of_ble_eq_true rfl) ⟨Nat.le_of_ble_eq_true rfl, Nat.le_of_ble_eq_true rfl⟩ (fun u39 z38 H locs h hP hD hS => ?_)
          try dsimp only at h hP hD
          exact ret u39 (z38, T) H locs 37 ls h rfl hP hD hS dX3_which_37
    · have h := h.2 c24
      refine lv_aload_n F.1 F.2.1 dX3_which_16 rfl (lv_at hl 0 rfl) ?_
      refine gv_iconst F dX3_which_17 ?_
      refine gc_VI (As := [.int (iI (-1))]) (wn := fun u : AR => wGh cy aO aL aN aT aK aI o rw u lg sg N T K I) F hK hA hP hD hS hP hD (fun u H1 _ h1 h2 => ⟨h1, h2⟩) (c_X3_refuse l D cy aO aL aN aT aK aI o rw rf lg sg N T K I (-1) _ h) (cwV 1 F.2.2.2.2 (gG_V k220 k222 k2 k61 k223) rfl rfl rfl hd_X3_refuse ⟨Nat.le_of_ble_eq_true rfl, Nat.le_of_ble_eq_true rfl⟩) rfl rfl dX3_which_18 rfl rfl hl.1 (Nat.le_of_ble_eq_true rfl) ⟨Nat.le_of_ble_eq_true rfl, Nat.le_of_ble_eq_true rfl⟩ (fun u41 z40 H locs h hP hD hS => ?_)
      try dsimp only at h hP hD
      exact ret u41 (z40, T) H locs 21 ls h rfl hP hD hS dX3_which_21
abbrev rX3_row : Room := { frames := 1, cells := 0, slots := 0, locals := 21 }
set_option maxHeartbeats 4000000 in
set_option maxRecDepth 20000 in
theorem c_X3_row (l : Launch) (D : va_G) (cy : ClassId) (aO : Nat → Nat) (aL : Nat → Nat) (aN : Nat → Nat) (aT : Nat → Nat) (aK : Nat → Nat) (aI : Nat → Nat) (o : AR) (rw : AR) (rf : AR) (lg : AR) (sg : AR) (N : MS) (T : MS) (K : MS) (I : MS) (x1 : Int) (Q : Int → AR → AR → AR → Prop) (h : wX3_row o rw rf x1 Q) : MetI l yX3_row (wT yX3_row cX3_row 2 (some .int)) rX3_row D cy [.ref (aO 0), .int (iI x1)] (wGh cy aO aL aN aT aK aI o rw rf lg sg N T K I) (fun u : AR × AR × AR => wGh cy aO aL aN aT aK aI u.1 u.2.1 u.2.2 lg sg N T K I) (fun r u => Q r u.1 u.2.1 u.2.2) := by
  refine gI_I (by decide) (Nat.le_of_ble_eq_true rfl) ?_
  intro p e s m args below meth c A Qg F hK hA ret H locs ls hl hP hD hS
  have F : CallFix p m c cX3_row 2 s args gT RX3 := F
  have hl : lv_has ls 2 [(0, .ref (aO 0)), (1, .int (iI x1))] := hl
  refine lv_iload_n F.1 F.2.1 dX3_row_0 rfl (lv_at hl 1 rfl) ?_
  obtain ⟨g1, h⟩ := h
  refine gv_if_ge (tgt := 11) F g1 dX3_row_1 (by decide) (fun c2 => ?_) (fun c2 => ?_)
  · have h := h.1 c2
    refine lv_iload_n F.1 F.2.1 dX3_row_11 rfl (lv_at hl 1 rfl) ?_
    refine gv_bipush F ⟨by decide, by decide⟩ dX3_row_12 ?_
    refine gv_icmp_gt (tgt := 26) F g1 ⟨by decide, by decide⟩ dX3_row_14 (by decide) (fun c3 => ?_) (fun c3 => ?_)
    · have h := h.1 c3
      refine lv_aload_n F.1 F.2.1 dX3_row_26 rfl (lv_at hl 0 rfl) ?_
      refine gv_bipush F ⟨by decide, by decide⟩ dX3_row_27 ?_
      refine gc_VI (As := [.int (iI (-6))]) (wn := fun u : AR => wGh cy aO aL aN aT aK aI o rw u lg sg N T K I) F hK hA hP hD hS hP hD (fun u H1 _ h1 h2 => ⟨h1, h2⟩) (c_X3_refuse l D cy aO aL aN aT aK aI o rw rf lg sg N T K I (-6) _ h) (cwV 1 F.2.2.2.2 (gG_V k220 k222 k2 k61 k223) rfl rfl rfl hd_X3_refuse ⟨Nat.le_of_ble_eq_true rfl, Nat.le_of_ble_eq_true rfl⟩) rfl rfl dX3_row_29 rfl rfl hl.1 (Nat.le_of_ble_eq_true rfl) ⟨Nat.le_of_ble_eq_true rfl, Nat.le_of_ble_eq_true rfl⟩ (fun u5 z4 H locs h hP hD hS => ?_)
      try dsimp only at h hP hD
      exact ret u5 (o, rw, z4) H locs 32 ls h rfl hP hD hS dX3_row_32
    · have h := h.2 c3
      refine lv_aload_n F.1 F.2.1 dX3_row_17 rfl (lv_at hl 0 rfl) ?_
      refine gv_get F hin3 hK hP 0 rfl rfl 7 (by decide) k195 rfl dX3_row_18 ?_
      refine gv_bipush F ⟨by decide, by decide⟩ dX3_row_21 ?_
      obtain ⟨g6, h⟩ := h
      refine gv_icmp_lt (tgt := 33) F g6 ⟨by decide, by decide⟩ dX3_row_23 (by decide) (fun c7 => ?_) (fun c7 => ?_)
      · have h := h.1 c7
        refine lv_aload_n F.1 F.2.1 dX3_row_33 rfl (lv_at hl 0 rfl) ?_
        refine gv_get F hin3 hK hP 0 rfl rfl 6 (by decide) k194 rfl dX3_row_34 ?_
        refine lv_aload_n F.1 F.2.1 dX3_row_37 rfl (lv_at hl 0 rfl) ?_
        refine gv_get F hin3 hK hP 0 rfl rfl 7 (by decide) k195 rfl dX3_row_38 ?_
        refine lv_iload_n F.1 F.2.1 dX3_row_41 rfl (lv_at hl 1 rfl) ?_
        obtain ⟨g8, h⟩ := h
        obtain ⟨z9, ez9⟩ : ∃ z : AR, z = su rw (o 7) x1 := ⟨_, rfl⟩
        have h := h z9 ez9
        refine gv_iast (n := 12) (g := rw) (ws' := wGh cy aO aL aN aT aK aI o z9 rf lg sg N T K I) F hK hP hD hS 1 rfl rfl (by decide) g8 (by subst ez9; exact rfl) dX3_row_42 (fun H locs hP hD hS => ?_)
        refine lv_aload_n F.1 F.2.1 dX3_row_43 rfl (lv_at hl 0 rfl) ?_
        refine lv_dup F.1 F.2.1 dX3_row_44 rfl ?_
        refine gv_get F hin3 hK hP 0 rfl rfl 7 (by decide) k195 rfl dX3_row_45 ?_
        refine gv_iconst F dX3_row_48 ?_
        refine gv_iadd F dX3_row_49 ?_
        obtain ⟨z10, ez10⟩ : ∃ z : AR, z = su o 7 ((o 7) + 1) := ⟨_, rfl⟩
        have h := h z10 ez10
        refine gv_put (ws' := wGh cy aO aL aN aT aK aI z10 z9 rf lg sg N T K I) F hin3 tyX3 tyX3_ok nmX3 hK hP hD hS 0 rfl rfl 7 (by decide) k195 rfl (ty := .int) (by decide +kernel) rfl rfl (Nat.le_of_ble_eq_true rfl) (by subst ez10; exact wGh_o7 rfl) dX3_row_50 (fun H locs hP hD hS => ?_)
        refine lv_aload_n F.1 F.2.1 dX3_row_53 rfl (lv_at hl 0 rfl) ?_
        refine gv_get F hin3 hK hP 0 rfl rfl 7 (by decide) k195 rfl dX3_row_54 ?_
        exact ret (z10 7) (z10, z9, rf) H locs 57 ls h rfl hP hD hS dX3_row_57
      · have h := h.2 c7
        refine lv_aload_n F.1 F.2.1 dX3_row_26 rfl (lv_at hl 0 rfl) ?_
        refine gv_bipush F ⟨by decide, by decide⟩ dX3_row_27 ?_
        refine gc_VI (As := [.int (iI (-6))]) (wn := fun u : AR => wGh cy aO aL aN aT aK aI o rw u lg sg N T K I) F hK hA hP hD hS hP hD (fun u H1 _ h1 h2 => ⟨h1, h2⟩) (c_X3_refuse l D cy aO aL aN aT aK aI o rw rf lg sg N T K I (-6) _ h) (cwV 1 F.2.2.2.2 (gG_V k220 k222 k2 k61 k223) rfl rfl rfl hd_X3_refuse ⟨Nat.le_of_ble_eq_true rfl, Nat.le_of_ble_eq_true rfl⟩) rfl rfl dX3_row_29 rfl rfl hl.1 (Nat.le_of_ble_eq_true rfl) ⟨Nat.le_of_ble_eq_true rfl, Nat.le_of_ble_eq_true rfl⟩ (fun u12 z11 H locs h hP hD hS => ?_)
        try dsimp only at h hP hD
        exact ret u12 (o, rw, z11) H locs 32 ls h rfl hP hD hS dX3_row_32
  · have h := h.2 c2
    refine lv_aload_n F.1 F.2.1 dX3_row_4 rfl (lv_at hl 0 rfl) ?_
    refine gv_bipush F ⟨by decide, by decide⟩ dX3_row_5 ?_
    refine gc_VI (As := [.int (iI (-4))]) (wn := fun u : AR => wGh cy aO aL aN aT aK aI o rw u lg sg N T K I) F hK hA hP hD hS hP hD (fun u H1 _ h1 h2 => ⟨h1, h2⟩) (c_X3_refuse l D cy aO aL aN aT aK aI o rw rf lg sg N T K I (-4) _ h) (cwV 1 F.2.2.2.2 (gG_V k220 k222 k2 k61 k223) rfl rfl rfl hd_X3_refuse ⟨Nat.le_of_ble_eq_true rfl, Nat.le_of_ble_eq_true rfl⟩) rfl rfl dX3_row_7 rfl rfl hl.1 (Nat.le_of_ble_eq_true rfl) ⟨Nat.le_of_ble_eq_true rfl, Nat.le_of_ble_eq_true rfl⟩ (fun u14 z13 H locs h hP hD hS => ?_)
    try dsimp only at h hP hD
    exact ret u14 (o, rw, z13) H locs 10 ls h rfl hP hD hS dX3_row_10
abbrev rX3_judge : Room := { frames := 4, cells := 0, slots := 0, locals := 86 }
set_option maxHeartbeats 4000000 in
set_option maxRecDepth 20000 in
theorem c_X3_judge (l : Launch) (D : va_G) (cy : ClassId) (aO : Nat → Nat) (aL : Nat → Nat) (aN : Nat → Nat) (aT : Nat → Nat) (aK : Nat → Nat) (aI : Nat → Nat) (o : AR) (rw : AR) (rf : AR) (lg : AR) (sg : AR) (N : MS) (T : MS) (K : MS) (I : MS) (x1 : Int) (Q : Int → AR → AR → MS → Prop) (h : wX3_judge o rw rf N T x1 Q) : MetI l yX3_judge (wT yX3_judge cX3_judge 4 (some .int)) rX3_judge D cy [.ref (aO 0), .int (iI x1)] (wGh cy aO aL aN aT aK aI o rw rf lg sg N T K I) (fun u : AR × AR × MS => wGh cy aO aL aN aT aK aI u.1 rw u.2.1 lg sg N u.2.2 K I) (fun r u => Q r u.1 u.2.1 u.2.2) := by
  refine gI_I (by decide) (Nat.le_of_ble_eq_true rfl) ?_
  intro p e s m args below meth c A Qg F hK hA ret H locs ls hl hP hD hS
  have F : CallFix p m c cX3_judge 4 s args gT RX3 := F
  have hl : lv_has ls 4 [(0, .ref (aO 0)), (1, .int (iI x1))] := hl
  have L23 : ∀ (n : Nat) (y1 : Int) (y2 : Int) (y3 : Int) (o : AR) (rf : AR) (T : MS) (H : Heap) (locs : List Loc) (ls : Array Slot), wX3_judge_23 rw N Q n y1 y2 y3 o rf T → va_P D vwCl (wGh cy aO aL aN aT aK aI o rw rf lg sg N T K I) H → va_D A (wGh cy aO aL aN aT aK aI o rw rf lg sg N T K I) → va_S A s.heap H locs → lv_has ls 4 [(0, .ref (aO 0)), (1, .int (iI y1)), (2, .int (iI y2)), (3, .int (iI y3))] → W p l e rX3_judge s m args below meth c H locs 0 0 Qg (F0 m 23 ls []) := by
    intro  n
    induction n with
    | zero => intro _ _ _ _ _ _ _ _ _ h; exact h.elim
    | succ n ih =>
      intro y1 y2 y3 o rf T H locs ls h hP hD hS hl
      rw [wX3_judge_23_s] at h
      refine lv_iload_n F.1 F.2.1 dX3_judge_23 rfl (lv_at hl 3 rfl) ?_
      refine lv_aload_n F.1 F.2.1 dX3_judge_24 rfl (lv_at hl 0 rfl) ?_
      refine gv_get F hin3 hK hP 0 rfl rfl 7 (by decide) k195 rfl dX3_judge_25 ?_
      obtain ⟨g1, h⟩ := h
      obtain ⟨g2, h⟩ := h
      refine gv_icmp_ge (tgt := 69) F g1 g2 dX3_judge_28 (by decide) (fun c3 => ?_) (fun c3 => ?_)
      · have h := h.1 c3
        refine lv_aload_n F.1 F.2.1 dX3_judge_69 rfl (lv_at hl 0 rfl) ?_
        refine gv_iconst F dX3_judge_70 ?_
        obtain ⟨z4, ez4⟩ : ∃ z : AR, z = su o 7 0 := ⟨_, rfl⟩
        have h := h z4 ez4
        refine gv_put (ws' := wGh cy aO aL aN aT aK aI z4 rw rf lg sg N T K I) F hin3 tyX3 tyX3_ok nmX3 hK hP hD hS 0 rfl rfl 7 (by decide) k195 rfl (ty := .int) (by decide +kernel) rfl rfl (Nat.le_of_ble_eq_true rfl) (by subst ez4; exact wGh_o7 rfl) dX3_judge_71 (fun H locs hP hD hS => ?_)
        refine lv_iload_n F.1 F.2.1 dX3_judge_74 rfl (lv_at hl 2 rfl) ?_
        exact ret y2 (z4, rf, T) H locs 75 ls h rfl hP hD hS dX3_judge_75
      · have h := h.2 c3
        refine lv_iload_n F.1 F.2.1 dX3_judge_31 rfl (lv_at hl 2 rfl) ?_
        refine gv_bipush F ⟨by decide, by decide⟩ dX3_judge_32 ?_
        obtain ⟨g5, h⟩ := h
        refine gv_icmp_ne (tgt := 69) F g5 ⟨by decide, by decide⟩ dX3_judge_34 (by decide) (fun c6 => ?_) (fun c6 => ?_)
        · have h := h.1 c6
          refine lv_aload_n F.1 F.2.1 dX3_judge_69 rfl (lv_at hl 0 rfl) ?_
          refine gv_iconst F dX3_judge_70 ?_
          obtain ⟨z7, ez7⟩ : ∃ z : AR, z = su o 7 0 := ⟨_, rfl⟩
          have h := h z7 ez7
          refine gv_put (ws' := wGh cy aO aL aN aT aK aI z7 rw rf lg sg N T K I) F hin3 tyX3 tyX3_ok nmX3 hK hP hD hS 0 rfl rfl 7 (by decide) k195 rfl (ty := .int) (by decide +kernel) rfl rfl (Nat.le_of_ble_eq_true rfl) (by subst ez7; exact wGh_o7 rfl) dX3_judge_71 (fun H locs hP hD hS => ?_)
          refine lv_iload_n F.1 F.2.1 dX3_judge_74 rfl (lv_at hl 2 rfl) ?_
          exact ret y2 (z7, rf, T) H locs 75 ls h rfl hP hD hS dX3_judge_75
        · have h := h.2 c6
          refine lv_aload_n F.1 F.2.1 dX3_judge_37 rfl (lv_at hl 0 rfl) ?_
          refine gv_get F hin3 hK hP 0 rfl rfl 1 (by decide) k189 rfl dX3_judge_38 ?_
          refine lv_iload_n F.1 F.2.1 dX3_judge_41 rfl (lv_at hl 1 rfl) ?_
          refine gc_VR (As := [.int (iI y1)]) F hK hA hP hS (cp_gh_T hP) (c_X1_answersOf l D cy aT T y1 _ h) (cwV 1 F.2.2.2.2 (gG_V k547 k548 k549 k62 k550) rfl rfl rfl hd_X1_answersOf ⟨Nat.le_of_ble_eq_true rfl, Nat.le_of_ble_eq_true rfl⟩) rfl rfl dX3_judge_42 rfl rfl hl.1 (Nat.le_of_ble_eq_true rfl) ⟨Nat.le_of_ble_eq_true rfl, Nat.le_of_ble_eq_true rfl⟩ (fun u8 H locs h hP hS => ?_)
          refine lv_aload_n F.1 F.2.1 dX3_judge_45 rfl (lv_at hl 0 rfl) ?_
          refine gv_get F hin3 hK hP 0 rfl rfl 6 (by decide) k194 rfl dX3_judge_46 ?_
          refine lv_iload_n F.1 F.2.1 dX3_judge_49 rfl (lv_at hl 3 rfl) ?_
          obtain ⟨g9, h⟩ := h
          refine gv_iald (n := 12) (g := rw) F hK hP 1 rfl rfl (by decide) g9 dX3_judge_50 ?_
          obtain ⟨g10, h⟩ := h
          obtain ⟨g11, h⟩ := h
          refine gv_icmp_eq (tgt := 56) F g10 g11 dX3_judge_51 (by decide) (fun c12 => ?_) (fun c12 => ?_)
          · have h := h.1 c12
            refine lv_aload_n F.1 F.2.1 dX3_judge_56 rfl (lv_at hl 0 rfl) ?_
            refine gv_get F hin3 hK hP 0 rfl rfl 1 (by decide) k189 rfl dX3_judge_57 ?_
            refine gc_VV (As := []) (wn := fun u : MS => wGh cy aO aL aN aT aK aI o rw rf lg sg N u K I) F hK hA hP hD hS (cp_gh_T hP) (cd_gh_T hD) (fun u H1 hk h1 _ => cj_gh_T hP hD u H1 hk h1) (c_X1_passMinute l D cy aT T _ h) (cwV 0 F.2.2.2.2 (gG_V k572 k436 k437 k62 k438) rfl rfl rfl hd_X1_passMinute ⟨Nat.le_of_ble_eq_true rfl, Nat.le_of_ble_eq_true rfl⟩) rfl rfl dX3_judge_60 rfl rfl hl.1 (Nat.le_of_ble_eq_true rfl) ⟨Nat.le_of_ble_eq_true rfl, Nat.le_of_ble_eq_true rfl⟩ (fun z13 H locs h hP hD hS => ?_)
            try dsimp only at h hP hD
            obtain ⟨v14, ev14⟩ : ∃ z : Int, z = y3 + 1 := ⟨_, rfl⟩
            have h := h v14 ev14
            refine gv_iinc (lv' := [(3, .int (iI v14)), (0, .ref (aO 0)), (1, .int (iI y1)), (2, .int (iI y2))]) F dX3_judge_63 hl (k := 3) rfl ev14 (by decide) rfl (fun ls hl => ?_)
            refine lv_goto (tgt := 23) F.1 F.2.1 dX3_judge_66 (by decide) ?_
            exact ih y1 y2 v14 o rf z13 H locs ls h hP hD hS (lv_sub hl [1, 2, 3, 0] rfl)
          · have h := h.2 c12
            refine lv_iload_n F.1 F.2.1 dX3_judge_54 rfl (lv_at hl 3 rfl) ?_
            refine lv_istore_n (lv' := [(2, .int (iI y3)), (0, .ref (aO 0)), (1, .int (iI y1)), (3, .int (iI y3))]) F.1 F.2.1 dX3_judge_55 rfl hl (by decide) rfl (fun ls hl => ?_)
            refine lv_aload_n F.1 F.2.1 dX3_judge_56 rfl (lv_at hl 1 rfl) ?_
            refine gv_get F hin3 hK hP 0 rfl rfl 1 (by decide) k189 rfl dX3_judge_57 ?_
            refine gc_VV (As := []) (wn := fun u : MS => wGh cy aO aL aN aT aK aI o rw rf lg sg N u K I) F hK hA hP hD hS (cp_gh_T hP) (cd_gh_T hD) (fun u H1 hk h1 _ => cj_gh_T hP hD u H1 hk h1) (c_X1_passMinute l D cy aT T _ h) (cwV 0 F.2.2.2.2 (gG_V k572 k436 k437 k62 k438) rfl rfl rfl hd_X1_passMinute ⟨Nat.le_of_ble_eq_true rfl, Nat.le_of_ble_eq_true rfl⟩) rfl rfl dX3_judge_60 rfl rfl hl.1 (Nat.le_of_ble_eq_true rfl) ⟨Nat.le_of_ble_eq_true rfl, Nat.le_of_ble_eq_true rfl⟩ (fun z15 H locs h hP hD hS => ?_)
            try dsimp only at h hP hD
            obtain ⟨v16, ev16⟩ : ∃ z : Int, z = y3 + 1 := ⟨_, rfl⟩
            have h := h v16 ev16
            refine gv_iinc (lv' := [(3, .int (iI v16)), (2, .int (iI y3)), (0, .ref (aO 0)), (1, .int (iI y1))]) F dX3_judge_63 hl (k := 3) rfl ev16 (by decide) rfl (fun ls hl => ?_)
            refine lv_goto (tgt := 23) F.1 F.2.1 dX3_judge_66 (by decide) ?_
            exact ih y1 y3 v16 o rf z15 H locs ls h hP hD hS (lv_sub hl [2, 3, 1, 0] rfl)
  refine lv_aload_n F.1 F.2.1 dX3_judge_0 rfl (lv_at hl 0 rfl) ?_
  refine lv_iload_n F.1 F.2.1 dX3_judge_1 rfl (lv_at hl 1 rfl) ?_
  refine gc_VR (As := [.int (iI x1)]) F hK hA hP hS hP (c_X3_noGroup l D cy aO aL aN aT aK aI o rw rf lg sg N T K I x1 _ h) (cwV 1 F.2.2.2.2 (gG_V k407 k409 k10 k61 k410) rfl rfl rfl hd_X3_noGroup ⟨Nat.le_of_ble_eq_true rfl, Nat.le_of_ble_eq_true rfl⟩) rfl rfl dX3_judge_2 rfl rfl hl.1 (Nat.le_of_ble_eq_true rfl) ⟨Nat.le_of_ble_eq_true rfl, Nat.le_of_ble_eq_true rfl⟩ (fun u17 H locs h hP hS => ?_)
  obtain ⟨bu17, h⟩ := h
  refine gv_if_eq (tgt := 14) F (gRb bu17) dX3_judge_5 (by decide) (fun c18 => ?_) (fun c18 => ?_)
  · have h := h.1 c18
    refine gv_bipush F ⟨by decide, by decide⟩ dX3_judge_14 ?_
    refine lv_istore_n (lv' := [(2, .int (iI (-9))), (0, .ref (aO 0)), (1, .int (iI x1))]) F.1 F.2.1 dX3_judge_16 rfl hl (by decide) rfl (fun ls hl => ?_)
    refine lv_aload_n F.1 F.2.1 dX3_judge_17 rfl (lv_at hl 1 rfl) ?_
    refine gc_VV (As := []) (wn := fun u : MS => wGh cy aO aL aN aT aK aI o rw rf lg sg N u K I) F hK hA hP hD hS hP hD (fun u H1 _ h1 h2 => ⟨h1, h2⟩) (c_X3_think l D cy aO aL aN aT aK aI o rw rf lg sg N T K I _ h) (cwV 0 F.2.2.2.2 (gG_V k539 k541 k19 k61 k542) rfl rfl rfl hd_X3_think ⟨Nat.le_of_ble_eq_true rfl, Nat.le_of_ble_eq_true rfl⟩) rfl rfl dX3_judge_18 rfl rfl hl.1 (Nat.le_of_ble_eq_true rfl) ⟨Nat.le_of_ble_eq_true rfl, Nat.le_of_ble_eq_true rfl⟩ (fun z19 H locs h hP hD hS => ?_)
    try dsimp only at h hP hD
    refine gv_iconst F dX3_judge_21 ?_
    refine lv_istore_n (lv' := [(3, .int (iI 0)), (2, .int (iI (-9))), (0, .ref (aO 0)), (1, .int (iI x1))]) F.1 F.2.1 dX3_judge_22 rfl hl (by decide) rfl (fun ls hl => ?_)
    obtain ⟨n20, h⟩ := h
    exact L23 n20 x1 (-9) 0 o rf z19 H locs ls h hP hD hS (lv_sub hl [2, 3, 1, 0] rfl)
  · have h := h.2 c18
    refine lv_aload_n F.1 F.2.1 dX3_judge_8 rfl (lv_at hl 0 rfl) ?_
    refine gv_iconst F dX3_judge_9 ?_
    refine gc_VI (As := [.int (iI (-1))]) (wn := fun u : AR => wGh cy aO aL aN aT aK aI o rw u lg sg N T K I) F hK hA hP hD hS hP hD (fun u H1 _ h1 h2 => ⟨h1, h2⟩) (c_X3_refuse l D cy aO aL aN aT aK aI o rw rf lg sg N T K I (-1) _ h) (cwV 1 F.2.2.2.2 (gG_V k220 k222 k2 k61 k223) rfl rfl rfl hd_X3_refuse ⟨Nat.le_of_ble_eq_true rfl, Nat.le_of_ble_eq_true rfl⟩) rfl rfl dX3_judge_10 rfl rfl hl.1 (Nat.le_of_ble_eq_true rfl) ⟨Nat.le_of_ble_eq_true rfl, Nat.le_of_ble_eq_true rfl⟩ (fun u22 z21 H locs h hP hD hS => ?_)
    try dsimp only at h hP hD
    exact ret u22 (o, z21, T) H locs 13 ls h rfl hP hD hS dX3_judge_13
