abbrev rX3_refuse : Room := { frames := 0, cells := 0, slots := 0, locals := 0 }
set_option maxHeartbeats 4000000 in
set_option maxRecDepth 20000 in
theorem c_X3_refuse (l : Launch) (D : va_G) (cy : ClassId) (aO : Nat → Nat) (aL : Nat → Nat) (aN : Nat → Nat) (aT : Nat → Nat) (aK : Nat → Nat) (aI : Nat → Nat) (o : AR) (rw : AR) (rf : AR) (lg : AR) (sg : AR) (N : MS) (T : MS) (K : MS) (I : MS) (x1 : Int) (Q : Int → AR → Prop) (h : wX3_refuse rf x1 Q) : MetI l yX3_refuse (wT yX3_refuse cX3_refuse 2 (some .int)) rX3_refuse D cy [.ref (aO 0), .int (iI x1)] (wGh cy aO aL aN aT aK aI o rw rf lg sg N T K I) (fun u : AR => wGh cy aO aL aN aT aK aI o rw u lg sg N T K I) (fun r u => Q r u) := by
  refine gI_I (by decide) (Nat.le_of_ble_eq_true rfl) ?_
  intro p e s m args below meth c A Qg F hK hA ret H locs ls hl hP hD hS
  have F : CallFix p m c cX3_refuse 2 s args gT RX3 := F
  have hl : lv_has ls 2 [(0, .ref (aO 0)), (1, .int (iI x1))] := hl
  refine lv_aload_n F.1 F.2.1 dX3_refuse_0 rfl (lv_at hl 0 rfl) ?_
  refine gv_get F hin3 hK hP 0 rfl rfl 8 (by decide) k196 rfl dX3_refuse_1 ?_
  refine lv_iload_n F.1 F.2.1 dX3_refuse_4 rfl (lv_at hl 1 rfl) ?_
  refine gv_ineg F dX3_refuse_5 ?_
  refine lv_dup2_11 F.1 F.2.1 dX3_refuse_6 rfl rfl ?_
  obtain ⟨g1, h⟩ := h
  refine gv_iald (n := 7) (g := rf) F hK hP 2 rfl rfl (by decide) g1 dX3_refuse_7 ?_
  refine gv_iconst F dX3_refuse_8 ?_
  refine gv_iadd F dX3_refuse_9 ?_
  obtain ⟨g2, h⟩ := h
  obtain ⟨z3, ez3⟩ : ∃ z : AR, z = su rf (-x1) ((rf (-x1)) + 1) := ⟨_, rfl⟩
  have h := h z3 ez3
  refine gv_iast (n := 7) (g := rf) (ws' := wGh cy aO aL aN aT aK aI o rw z3 lg sg N T K I) F hK hP hD hS 2 rfl rfl (by decide) g2 (by subst ez3; exact rfl) dX3_refuse_10 (fun H locs hP hD hS => ?_)
  refine lv_iload_n F.1 F.2.1 dX3_refuse_11 rfl (lv_at hl 1 rfl) ?_
  exact ret x1 z3 H locs 12 ls h rfl hP hD hS dX3_refuse_12
abbrev rX3_letter : Room := { frames := 1, cells := 0, slots := 0, locals := 21 }
set_option maxHeartbeats 4000000 in
set_option maxRecDepth 20000 in
theorem c_X3_letter (l : Launch) (D : va_G) (cy : ClassId) (aO : Nat → Nat) (aL : Nat → Nat) (aN : Nat → Nat) (aT : Nat → Nat) (aK : Nat → Nat) (aI : Nat → Nat) (o : AR) (rw : AR) (rf : AR) (lg : AR) (sg : AR) (N : MS) (T : MS) (K : MS) (I : MS) (x1 : Int) (Q : Int → AR → AR → AR → Prop) (h : wX3_letter rf lg sg x1 Q) : MetI l yX3_letter (wT yX3_letter cX3_letter 2 (some .int)) rX3_letter D cy [.ref (aO 0), .int (iI x1)] (wGh cy aO aL aN aT aK aI o rw rf lg sg N T K I) (fun u : AR × AR × AR => wGh cy aO aL aN aT aK aI o rw u.1 u.2.1 u.2.2 N T K I) (fun r u => Q r u.1 u.2.1 u.2.2) := by
  refine gI_I (by decide) (Nat.le_of_ble_eq_true rfl) ?_
  intro p e s m args below meth c A Qg F hK hA ret H locs ls hl hP hD hS
  have F : CallFix p m c cX3_letter 2 s args gT RX3 := F
  have hl : lv_has ls 2 [(0, .ref (aO 0)), (1, .int (iI x1))] := hl
  refine lv_iload_n F.1 F.2.1 dX3_letter_0 rfl (lv_at hl 1 rfl) ?_
  obtain ⟨g1, h⟩ := h
  refine gv_if_ge (tgt := 11) F g1 dX3_letter_1 (by decide) (fun c2 => ?_) (fun c2 => ?_)
  · have h := h.1 c2
    refine lv_iload_n F.1 F.2.1 dX3_letter_11 rfl (lv_at hl 1 rfl) ?_
    refine gv_sipush F ⟨by decide, by decide⟩ dX3_letter_12 ?_
    refine gv_icmp_gt (tgt := 28) F g1 ⟨by decide, by decide⟩ dX3_letter_15 (by decide) (fun c3 => ?_) (fun c3 => ?_)
    · have h := h.1 c3
      refine lv_aload_n F.1 F.2.1 dX3_letter_28 rfl (lv_at hl 0 rfl) ?_
      refine gv_bipush F ⟨by decide, by decide⟩ dX3_letter_29 ?_
      refine gc_VI (As := [.int (iI (-6))]) (wn := fun u : AR => wGh cy aO aL aN aT aK aI o rw u lg sg N T K I) F hK hA hP hD hS hP hD (fun u H1 _ h1 h2 => ⟨h1, h2⟩) (c_X3_refuse l D cy aO aL aN aT aK aI o rw rf lg sg N T K I (-6) _ h) (cwV 1 F.2.2.2.2 (gG_V k220 k222 k2 k61 k223) rfl rfl rfl hd_X3_refuse ⟨Nat.le_of_ble_eq_true rfl, Nat.le_of_ble_eq_true rfl⟩) rfl rfl dX3_letter_31 rfl rfl hl.1 (Nat.le_of_ble_eq_true rfl) ⟨Nat.le_of_ble_eq_true rfl, Nat.le_of_ble_eq_true rfl⟩ (fun u5 z4 H locs h hP hD hS => ?_)
      try dsimp only at h hP hD
      exact ret u5 (z4, lg, sg) H locs 34 ls h rfl hP hD hS dX3_letter_34
    · have h := h.2 c3
      refine lv_aload_n F.1 F.2.1 dX3_letter_18 rfl (lv_at hl 0 rfl) ?_
      refine gv_get F hin3 hK hP 0 rfl rfl 5 (by decide) k193 rfl dX3_letter_19 ?_
      refine gc_VR (As := []) F hK hA hP hS (cp_gh_L hP) (c_X0_isFull l D cy aL lg sg _ h) (cwV 0 F.2.2.2.2 (gG_V k224 k225 k226 k66 k227) rfl rfl rfl hd_X0_isFull ⟨Nat.le_of_ble_eq_true rfl, Nat.le_of_ble_eq_true rfl⟩) rfl rfl dX3_letter_22 rfl rfl hl.1 (Nat.le_of_ble_eq_true rfl) ⟨Nat.le_of_ble_eq_true rfl, Nat.le_of_ble_eq_true rfl⟩ (fun u6 H locs h hP hS => ?_)
      obtain ⟨bu6, h⟩ := h
      refine gv_if_eq (tgt := 35) F (gRb bu6) dX3_letter_25 (by decide) (fun c7 => ?_) (fun c7 => ?_)
      · have h := h.1 c7
        refine lv_aload_n F.1 F.2.1 dX3_letter_35 rfl (lv_at hl 0 rfl) ?_
        refine gv_get F hin3 hK hP 0 rfl rfl 5 (by decide) k193 rfl dX3_letter_36 ?_
        refine lv_iload_n F.1 F.2.1 dX3_letter_39 rfl (lv_at hl 1 rfl) ?_
        refine gc_VI (As := [.int (iI x1)]) (wn := fun u : AR × AR => wGh cy aO aL aN aT aK aI o rw rf u.1 u.2 N T K I) F hK hA hP hD hS (cp_gh_L hP) (cd_gh_L hD) (fun u H1 hk h1 _ => cj_gh_L hP hD u.1 u.2 H1 hk h1) (c_X0_append l D cy aL lg sg x1 _ h) (cwV 1 F.2.2.2.2 (gG_V k228 k229 k230 k66 k231) rfl rfl rfl hd_X0_append ⟨Nat.le_of_ble_eq_true rfl, Nat.le_of_ble_eq_true rfl⟩) rfl rfl dX3_letter_40 rfl rfl hl.1 (Nat.le_of_ble_eq_true rfl) ⟨Nat.le_of_ble_eq_true rfl, Nat.le_of_ble_eq_true rfl⟩ (fun u10 u H locs h hP hD hS => ?_)
        obtain ⟨z8, z9⟩ := u
        try dsimp only at h hP hD
        exact ret u10 (rf, z8, z9) H locs 43 ls h rfl hP hD hS dX3_letter_43
      · have h := h.2 c7
        refine lv_aload_n F.1 F.2.1 dX3_letter_28 rfl (lv_at hl 0 rfl) ?_
        refine gv_bipush F ⟨by decide, by decide⟩ dX3_letter_29 ?_
        refine gc_VI (As := [.int (iI (-6))]) (wn := fun u : AR => wGh cy aO aL aN aT aK aI o rw u lg sg N T K I) F hK hA hP hD hS hP hD (fun u H1 _ h1 h2 => ⟨h1, h2⟩) (c_X3_refuse l D cy aO aL aN aT aK aI o rw rf lg sg N T K I (-6) _ h) (cwV 1 F.2.2.2.2 (gG_V k220 k222 k2 k61 k223) rfl rfl rfl hd_X3_refuse ⟨Nat.le_of_ble_eq_true rfl, Nat.le_of_ble_eq_true rfl⟩) rfl rfl dX3_letter_31 rfl rfl hl.1 (Nat.le_of_ble_eq_true rfl) ⟨Nat.le_of_ble_eq_true rfl, Nat.le_of_ble_eq_true rfl⟩ (fun u12 z11 H locs h hP hD hS => ?_)
        try dsimp only at h hP hD
        exact ret u12 (z11, lg, sg) H locs 34 ls h rfl hP hD hS dX3_letter_34
  · have h := h.2 c2
    refine lv_aload_n F.1 F.2.1 dX3_letter_4 rfl (lv_at hl 0 rfl) ?_
    refine gv_bipush F ⟨by decide, by decide⟩ dX3_letter_5 ?_
    refine gc_VI (As := [.int (iI (-4))]) (wn := fun u : AR => wGh cy aO aL aN aT aK aI o rw u lg sg N T K I) F hK hA hP hD hS hP hD (fun u H1 _ h1 h2 => ⟨h1, h2⟩) (c_X3_refuse l D cy aO aL aN aT aK aI o rw rf lg sg N T K I (-4) _ h) (cwV 1 F.2.2.2.2 (gG_V k220 k222 k2 k61 k223) rfl rfl rfl hd_X3_refuse ⟨Nat.le_of_ble_eq_true rfl, Nat.le_of_ble_eq_true rfl⟩) rfl rfl dX3_letter_7 rfl rfl hl.1 (Nat.le_of_ble_eq_true rfl) ⟨Nat.le_of_ble_eq_true rfl, Nat.le_of_ble_eq_true rfl⟩ (fun u14 z13 H locs h hP hD hS => ?_)
    try dsimp only at h hP hD
    exact ret u14 (z13, lg, sg) H locs 10 ls h rfl hP hD hS dX3_letter_10
abbrev rX3_noRoom : Room := { frames := 0, cells := 0, slots := 0, locals := 0 }
set_option maxHeartbeats 4000000 in
set_option maxRecDepth 20000 in
theorem c_X3_noRoom (l : Launch) (D : va_G) (cy : ClassId)   (x0 : Int) (Q : Int → Prop) (h : wX3_noRoom x0 Q) : MetR l yX3_noRoom (wT yX3_noRoom cX3_noRoom 1 (some .boolean)) rX3_noRoom D cy [.int (iI x0)] ([]) (fun u => (u = 0 ∨ u = 1) ∧ Q u) := by
  refine gI_R (by decide) (Nat.le_of_ble_eq_true rfl) ?_
  intro p e s m args below meth c A Qg F hK hA ret H locs ls hl hP hS
  have F : CallFix p m c cX3_noRoom 1 s args gT RX3 := F
  have hl : lv_has ls 1 [(0, .int (iI x0))] := hl
  refine lv_iload_n F.1 F.2.1 dX3_noRoom_0 rfl (lv_at hl 0 rfl) ?_
  obtain ⟨g1, h⟩ := h
  refine gv_if_lt (tgt := 10) F g1 dX3_noRoom_1 (by decide) (fun c2 => ?_) (fun c2 => ?_)
  · have h := h.1 c2
    refine gv_iconst F dX3_noRoom_10 ?_
    refine lv_goto (tgt := 15) F.1 F.2.1 dX3_noRoom_11 (by decide) ?_
    exact ret 1 H locs 15 ls ⟨Or.inr rfl, h⟩ rfl hS dX3_noRoom_15
  · have h := h.2 c2
    refine lv_iload_n F.1 F.2.1 dX3_noRoom_4 rfl (lv_at hl 0 rfl) ?_
    refine gv_bipush F ⟨by decide, by decide⟩ dX3_noRoom_5 ?_
    refine gv_icmp_lt (tgt := 14) F g1 ⟨by decide, by decide⟩ dX3_noRoom_7 (by decide) (fun c3 => ?_) (fun c3 => ?_)
    · have h := h.1 c3
      refine gv_iconst F dX3_noRoom_14 ?_
      exact ret 0 H locs 15 ls ⟨Or.inl rfl, h⟩ rfl hS dX3_noRoom_15
    · have h := h.2 c3
      refine gv_iconst F dX3_noRoom_10 ?_
      refine lv_goto (tgt := 15) F.1 F.2.1 dX3_noRoom_11 (by decide) ?_
      exact ret 1 H locs 15 ls ⟨Or.inr rfl, h⟩ rfl hS dX3_noRoom_15
abbrev rX3_performDoor : Room := { frames := 4, cells := 0, slots := 0, locals := 89 }
set_option maxHeartbeats 4000000 in
set_option maxRecDepth 20000 in
theorem c_X3_performDoor (l : Launch) (D : va_G) (cy : ClassId) (aO : Nat → Nat) (aL : Nat → Nat) (aN : Nat → Nat) (aT : Nat → Nat) (aK : Nat → Nat) (aI : Nat → Nat) (o : AR) (rw : AR) (rf : AR) (lg : AR) (sg : AR) (N : MS) (T : MS) (K : MS) (I : MS) (x1 x2 : Int) (Q : Int → MS → Prop) (h : wX3_performDoor N x1 x2 Q) : MetI l yX3_performDoor (wT yX3_performDoor cX3_performDoor 3 (some .boolean)) rX3_performDoor D cy [.ref (aO 0), .int (iI x1), .int (iI x2)] (wGh cy aO aL aN aT aK aI o rw rf lg sg N T K I) (fun u : MS => wGh cy aO aL aN aT aK aI o rw rf lg sg u T K I) (fun r u => (r = 0 ∨ r = 1) ∧ Q r u) := by
  refine gI_I (by decide) (Nat.le_of_ble_eq_true rfl) ?_
  intro p e s m args below meth c A Qg F hK hA ret H locs ls hl hP hD hS
  have F : CallFix p m c cX3_performDoor 3 s args gT RX3 := F
  have hl : lv_has ls 3 [(0, .ref (aO 0)), (1, .int (iI x1)), (2, .int (iI x2))] := hl
  refine lv_iload_n F.1 F.2.1 dX3_performDoor_0 rfl (lv_at hl 1 rfl) ?_
  refine gc_SR (As := [.int (iI x1)]) F hK hA hP hS gPnil (c_X3_noRoom l D cy x1 _ h) (cwS 1 F.2.2.2.2 (gG_S k375 k376 k61 k377) rfl rfl rfl hd_X3_noRoom ⟨Nat.le_of_ble_eq_true rfl, Nat.le_of_ble_eq_true rfl⟩) dX3_performDoor_1 rfl rfl hl.1 (Nat.le_of_ble_eq_true rfl) ⟨Nat.le_of_ble_eq_true rfl, Nat.le_of_ble_eq_true rfl⟩ (fun u1 H locs h hP hS => ?_)
  obtain ⟨bu1, h⟩ := h
  refine gv_if_ne (tgt := 19) F (gRb bu1) dX3_performDoor_4 (by decide) (fun c2 => ?_) (fun c2 => ?_)
  · have h := h.1 c2
    refine gv_iconst F dX3_performDoor_19 ?_
    exact ret 0 N H locs 20 ls ⟨Or.inl rfl, h⟩ rfl hP hD hS dX3_performDoor_20
  · have h := h.2 c2
    refine lv_iload_n F.1 F.2.1 dX3_performDoor_7 rfl (lv_at hl 2 rfl) ?_
    refine gc_SR (As := [.int (iI x2)]) F hK hA hP hS gPnil (c_X3_noRoom l D cy x2 _ h) (cwS 1 F.2.2.2.2 (gG_S k375 k376 k61 k377) rfl rfl rfl hd_X3_noRoom ⟨Nat.le_of_ble_eq_true rfl, Nat.le_of_ble_eq_true rfl⟩) dX3_performDoor_8 rfl rfl hl.1 (Nat.le_of_ble_eq_true rfl) ⟨Nat.le_of_ble_eq_true rfl, Nat.le_of_ble_eq_true rfl⟩ (fun u3 H locs h hP hS => ?_)
    obtain ⟨bu3, h⟩ := h
    refine gv_if_ne (tgt := 19) F (gRb bu3) dX3_performDoor_11 (by decide) (fun c4 => ?_) (fun c4 => ?_)
    · have h := h.1 c4
      refine gv_iconst F dX3_performDoor_19 ?_
      exact ret 0 N H locs 20 ls ⟨Or.inl rfl, h⟩ rfl hP hD hS dX3_performDoor_20
    · have h := h.2 c4
      refine lv_iload_n F.1 F.2.1 dX3_performDoor_14 rfl (lv_at hl 1 rfl) ?_
      refine lv_iload_n F.1 F.2.1 dX3_performDoor_15 rfl (lv_at hl 2 rfl) ?_
      obtain ⟨g5, h⟩ := h
      obtain ⟨g6, h⟩ := h
      refine gv_icmp_ne (tgt := 21) F g5 g6 dX3_performDoor_16 (by decide) (fun c7 => ?_) (fun c7 => ?_)
      · have h := h.1 c7
        refine lv_aload_n F.1 F.2.1 dX3_performDoor_21 rfl (lv_at hl 0 rfl) ?_
        refine gv_get F hin3 hK hP 0 rfl rfl 0 (by decide) k188 rfl dX3_performDoor_22 ?_
        refine gv_get F hin1 hK (cp_gh_N hP) 0 rfl rfl 0 (by decide) k117 rfl dX3_performDoor_25 ?_
        refine lv_iload_n F.1 F.2.1 dX3_performDoor_28 rfl (lv_at hl 1 rfl) ?_
        refine lv_iload_n F.1 F.2.1 dX3_performDoor_29 rfl (lv_at hl 2 rfl) ?_
        refine gc_VV (As := [.int (iI x1), .int (iI x2)]) (wn := fun u : AR × AR => wGh cy aO aL aN aT aK aI o rw rf lg sg (uc (uc N 2 u.1) 3 u.2) T K I) F hK hA hP hD hS (cp_gh_Nr hP) (cd_gh_Nr hD) (fun u H1 hk h1 _ => cj_gh_Nr hP hD u.1 u.2 H1 hk h1) (c_X2_turn l D cy (fun k => aN (k + 1)) (N 2) (N 3) x1 x2 _ h) (cwV 2 F.2.2.2.2 (gG_V k378 k379 k380 k63 k381) rfl rfl rfl hd_X2_turn ⟨Nat.le_of_ble_eq_true rfl, Nat.le_of_ble_eq_true rfl⟩) rfl rfl dX3_performDoor_30 rfl rfl hl.1 (Nat.le_of_ble_eq_true rfl) ⟨Nat.le_of_ble_eq_true rfl, Nat.le_of_ble_eq_true rfl⟩ (fun u H locs h hP hD hS => ?_)
        obtain ⟨z8, z9⟩ := u
        try dsimp only at h hP hD
        obtain ⟨z10, ez10⟩ : ∃ z : MS, z = (uc (uc N 2 z8) 3 z9) := ⟨_, rfl⟩
        have h := h z10 ez10
        rw [← ez10] at hP hD
        refine gv_iconst F dX3_performDoor_33 ?_
        exact ret 1 z10 H locs 34 ls ⟨Or.inr rfl, h⟩ rfl hP hD hS dX3_performDoor_34
      · have h := h.2 c7
        refine gv_iconst F dX3_performDoor_19 ?_
        exact ret 0 N H locs 20 ls ⟨Or.inl rfl, h⟩ rfl hP hD hS dX3_performDoor_20
abbrev rX3_performQuestion : Room := { frames := 1, cells := 0, slots := 0, locals := 24 }
set_option maxHeartbeats 4000000 in
set_option maxRecDepth 20000 in
theorem c_X3_performQuestion (l : Launch) (D : va_G) (cy : ClassId) (aO : Nat → Nat) (aL : Nat → Nat) (aN : Nat → Nat) (aT : Nat → Nat) (aK : Nat → Nat) (aI : Nat → Nat) (o : AR) (rw : AR) (rf : AR) (lg : AR) (sg : AR) (N : MS) (T : MS) (K : MS) (I : MS) (x1 x2 x3 x4 : Int) (Q : Int → MS → Prop) (h : wX3_performQuestion N x1 x2 x3 x4 Q) : MetI l yX3_performQuestion (wT yX3_performQuestion cX3_performQuestion 5 (some .boolean)) rX3_performQuestion D cy [.ref (aO 0), .int (iI x1), .int (iI x2), .int (iI x3), .int (iI x4)] (wGh cy aO aL aN aT aK aI o rw rf lg sg N T K I) (fun u : MS => wGh cy aO aL aN aT aK aI o rw rf lg sg u T K I) (fun r u => (r = 0 ∨ r = 1) ∧ Q r u) := by
  refine gI_I (by decide) (Nat.le_of_ble_eq_true rfl) ?_
  intro p e s m args below meth c A Qg F hK hA ret H locs ls hl hP hD hS
  have F : CallFix p m c cX3_performQuestion 5 s args gT RX3 := F
  have hl : lv_has ls 5 [(0, .ref (aO 0)), (1, .int (iI x1)), (2, .int (iI x2)), (3, .int (iI x3)), (4, .int (iI x4))] := hl
  refine lv_iload_n F.1 F.2.1 dX3_performQuestion_0 rfl (lv_at hl 3 rfl) ?_
  refine gc_SR (As := [.int (iI x3)]) F hK hA hP hS gPnil (c_X3_noRoom l D cy x3 _ h) (cwS 1 F.2.2.2.2 (gG_S k375 k376 k61 k377) rfl rfl rfl hd_X3_noRoom ⟨Nat.le_of_ble_eq_true rfl, Nat.le_of_ble_eq_true rfl⟩) dX3_performQuestion_1 rfl rfl hl.1 (Nat.le_of_ble_eq_true rfl) ⟨Nat.le_of_ble_eq_true rfl, Nat.le_of_ble_eq_true rfl⟩ (fun u1 H locs h hP hS => ?_)
  obtain ⟨bu1, h⟩ := h
  refine gv_if_ne (tgt := 19) F (gRb bu1) dX3_performQuestion_4 (by decide) (fun c2 => ?_) (fun c2 => ?_)
  · have h := h.1 c2
    refine gv_iconst F dX3_performQuestion_19 ?_
    exact ret 0 N H locs 20 ls ⟨Or.inl rfl, h⟩ rfl hP hD hS dX3_performQuestion_20
  · have h := h.2 c2
    refine lv_aload_n F.1 F.2.1 dX3_performQuestion_7 rfl (lv_at hl 0 rfl) ?_
    refine gv_get F hin3 hK hP 0 rfl rfl 0 (by decide) k188 rfl dX3_performQuestion_8 ?_
    refine gv_get F hin1 hK (cp_gh_N hP) 0 rfl rfl 2 (by decide) k121 rfl dX3_performQuestion_11 ?_
    refine gv_bipush F ⟨by decide, by decide⟩ dX3_performQuestion_14 ?_
    obtain ⟨g3, h⟩ := h
    refine gv_icmp_lt (tgt := 21) F g3 ⟨by decide, by decide⟩ dX3_performQuestion_16 (by decide) (fun c4 => ?_) (fun c4 => ?_)
    · have h := h.1 c4
      refine lv_aload_n F.1 F.2.1 dX3_performQuestion_21 rfl (lv_at hl 0 rfl) ?_
      refine gv_get F hin3 hK hP 0 rfl rfl 0 (by decide) k188 rfl dX3_performQuestion_22 ?_
      refine lv_iload_n F.1 F.2.1 dX3_performQuestion_25 rfl (lv_at hl 1 rfl) ?_
      refine lv_iload_n F.1 F.2.1 dX3_performQuestion_26 rfl (lv_at hl 2 rfl) ?_
      refine lv_iload_n F.1 F.2.1 dX3_performQuestion_27 rfl (lv_at hl 3 rfl) ?_
      refine lv_iload F.1 F.2.1 dX3_performQuestion_28 (lv_at hl 4 rfl) ?_
      refine gc_VV (As := [.int (iI x1), .int (iI x2), .int (iI x3), .int (iI x4)]) (wn := fun u : MS => wGh cy aO aL aN aT aK aI o rw rf lg sg u T K I) F hK hA hP hD hS (cp_gh_N hP) (cd_gh_N hD) (fun u H1 hk h1 _ => cj_gh_N hP hD u H1 hk h1) (c_X1_addQuestion l D cy aN N x1 x2 x3 x4 _ h) (cwV 4 F.2.2.2.2 (gG_V k391 k392 k393 k62 k394) rfl rfl rfl hd_X1_addQuestion ⟨Nat.le_of_ble_eq_true rfl, Nat.le_of_ble_eq_true rfl⟩) rfl rfl dX3_performQuestion_30 rfl rfl hl.1 (Nat.le_of_ble_eq_true rfl) ⟨Nat.le_of_ble_eq_true rfl, Nat.le_of_ble_eq_true rfl⟩ (fun z5 H locs h hP hD hS => ?_)
      try dsimp only at h hP hD
      refine gv_iconst F dX3_performQuestion_33 ?_
      exact ret 1 z5 H locs 34 ls ⟨Or.inr rfl, h⟩ rfl hP hD hS dX3_performQuestion_34
    · have h := h.2 c4
      refine gv_iconst F dX3_performQuestion_19 ?_
      exact ret 0 N H locs 20 ls ⟨Or.inl rfl, h⟩ rfl hP hD hS dX3_performQuestion_20
abbrev rX3_performGroup : Room := { frames := 1, cells := 0, slots := 0, locals := 23 }
set_option maxHeartbeats 4000000 in
set_option maxRecDepth 20000 in
theorem c_X3_performGroup (l : Launch) (D : va_G) (cy : ClassId) (aO : Nat → Nat) (aL : Nat → Nat) (aN : Nat → Nat) (aT : Nat → Nat) (aK : Nat → Nat) (aI : Nat → Nat) (o : AR) (rw : AR) (rf : AR) (lg : AR) (sg : AR) (N : MS) (T : MS) (K : MS) (I : MS) (x1 x2 x3 : Int) (Q : Int → MS → Prop) (h : wX3_performGroup N x1 x2 x3 Q) : MetI l yX3_performGroup (wT yX3_performGroup cX3_performGroup 4 (some .boolean)) rX3_performGroup D cy [.ref (aO 0), .int (iI x1), .int (iI x2), .int (iI x3)] (wGh cy aO aL aN aT aK aI o rw rf lg sg N T K I) (fun u : MS => wGh cy aO aL aN aT aK aI o rw rf lg sg u T K I) (fun r u => (r = 0 ∨ r = 1) ∧ Q r u) := by
  refine gI_I (by decide) (Nat.le_of_ble_eq_true rfl) ?_
  intro p e s m args below meth c A Qg F hK hA ret H locs ls hl hP hD hS
  have F : CallFix p m c cX3_performGroup 4 s args gT RX3 := F
  have hl : lv_has ls 4 [(0, .ref (aO 0)), (1, .int (iI x1)), (2, .int (iI x2)), (3, .int (iI x3))] := hl
  refine lv_iload_n F.1 F.2.1 dX3_performGroup_0 rfl (lv_at hl 3 rfl) ?_
  refine gv_bipush F ⟨by decide, by decide⟩ dX3_performGroup_1 ?_
  obtain ⟨g1, h⟩ := h
  refine gv_icmp_ge (tgt := 17) F g1 ⟨by decide, by decide⟩ dX3_performGroup_3 (by decide) (fun c2 => ?_) (fun c2 => ?_)
  · have h := h.1 c2
    refine gv_iconst F dX3_performGroup_17 ?_
    exact ret 0 N H locs 18 ls ⟨Or.inl rfl, h⟩ rfl hP hD hS dX3_performGroup_18
  · have h := h.2 c2
    refine lv_aload_n F.1 F.2.1 dX3_performGroup_6 rfl (lv_at hl 0 rfl) ?_
    refine gv_get F hin3 hK hP 0 rfl rfl 0 (by decide) k188 rfl dX3_performGroup_7 ?_
    refine gv_get F hin1 hK (cp_gh_N hP) 0 rfl rfl 7 (by decide) k131 rfl dX3_performGroup_10 ?_
    refine gv_iconst F dX3_performGroup_13 ?_
    obtain ⟨g3, h⟩ := h
    refine gv_icmp_lt (tgt := 19) F g3 ⟨by decide, by decide⟩ dX3_performGroup_14 (by decide) (fun c4 => ?_) (fun c4 => ?_)
    · have h := h.1 c4
      refine lv_aload_n F.1 F.2.1 dX3_performGroup_19 rfl (lv_at hl 0 rfl) ?_
      refine gv_get F hin3 hK hP 0 rfl rfl 0 (by decide) k188 rfl dX3_performGroup_20 ?_
      refine lv_iload_n F.1 F.2.1 dX3_performGroup_23 rfl (lv_at hl 1 rfl) ?_
      refine lv_iload_n F.1 F.2.1 dX3_performGroup_24 rfl (lv_at hl 2 rfl) ?_
      refine lv_iload_n F.1 F.2.1 dX3_performGroup_25 rfl (lv_at hl 3 rfl) ?_
      refine gc_VV (As := [.int (iI x1), .int (iI x2), .int (iI x3)]) (wn := fun u : MS => wGh cy aO aL aN aT aK aI o rw rf lg sg u T K I) F hK hA hP hD hS (cp_gh_N hP) (cd_gh_N hD) (fun u H1 hk h1 _ => cj_gh_N hP hD u H1 hk h1) (c_X1_addGroup l D cy aN N x1 x2 x3 _ h) (cwV 3 F.2.2.2.2 (gG_V k399 k400 k401 k62 k402) rfl rfl rfl hd_X1_addGroup ⟨Nat.le_of_ble_eq_true rfl, Nat.le_of_ble_eq_true rfl⟩) rfl rfl dX3_performGroup_26 rfl rfl hl.1 (Nat.le_of_ble_eq_true rfl) ⟨Nat.le_of_ble_eq_true rfl, Nat.le_of_ble_eq_true rfl⟩ (fun z5 H locs h hP hD hS => ?_)
      try dsimp only at h hP hD
      refine gv_iconst F dX3_performGroup_29 ?_
      exact ret 1 z5 H locs 30 ls ⟨Or.inr rfl, h⟩ rfl hP hD hS dX3_performGroup_30
    · have h := h.2 c4
      refine gv_iconst F dX3_performGroup_17 ?_
      exact ret 0 N H locs 18 ls ⟨Or.inl rfl, h⟩ rfl hP hD hS dX3_performGroup_18
abbrev rX3_noGroup : Room := { frames := 0, cells := 0, slots := 0, locals := 0 }
set_option maxHeartbeats 4000000 in
set_option maxRecDepth 20000 in
theorem c_X3_noGroup (l : Launch) (D : va_G) (cy : ClassId) (aO : Nat → Nat) (aL : Nat → Nat) (aN : Nat → Nat) (aT : Nat → Nat) (aK : Nat → Nat) (aI : Nat → Nat) (o : AR) (rw : AR) (rf : AR) (lg : AR) (sg : AR) (N : MS) (T : MS) (K : MS) (I : MS) (x1 : Int) (Q : Int → Prop) (h : wX3_noGroup N x1 Q) : MetR l yX3_noGroup (wT yX3_noGroup cX3_noGroup 2 (some .boolean)) rX3_noGroup D cy [.ref (aO 0), .int (iI x1)] (wGh cy aO aL aN aT aK aI o rw rf lg sg N T K I) (fun u => (u = 0 ∨ u = 1) ∧ Q u) := by
  refine gI_R (by decide) (Nat.le_of_ble_eq_true rfl) ?_
  intro p e s m args below meth c A Qg F hK hA ret H locs ls hl hP hS
  have F : CallFix p m c cX3_noGroup 2 s args gT RX3 := F
  have hl : lv_has ls 2 [(0, .ref (aO 0)), (1, .int (iI x1))] := hl
  refine lv_iload_n F.1 F.2.1 dX3_noGroup_0 rfl (lv_at hl 1 rfl) ?_
  obtain ⟨g1, h⟩ := h
  refine gv_if_lt (tgt := 15) F g1 dX3_noGroup_1 (by decide) (fun c2 => ?_) (fun c2 => ?_)
  · have h := h.1 c2
    refine gv_iconst F dX3_noGroup_15 ?_
    refine lv_goto (tgt := 20) F.1 F.2.1 dX3_noGroup_16 (by decide) ?_
    exact ret 1 H locs 20 ls ⟨Or.inr rfl, h⟩ rfl hS dX3_noGroup_20
  · have h := h.2 c2
    refine lv_iload_n F.1 F.2.1 dX3_noGroup_4 rfl (lv_at hl 1 rfl) ?_
    refine lv_aload_n F.1 F.2.1 dX3_noGroup_5 rfl (lv_at hl 0 rfl) ?_
    refine gv_get F hin3 hK hP 0 rfl rfl 0 (by decide) k188 rfl dX3_noGroup_6 ?_
    refine gv_get F hin1 hK (cp_gh_N hP) 0 rfl rfl 7 (by decide) k131 rfl dX3_noGroup_9 ?_
    obtain ⟨g3, h⟩ := h
    refine gv_icmp_lt (tgt := 19) F g1 g3 dX3_noGroup_12 (by decide) (fun c4 => ?_) (fun c4 => ?_)
    · have h := h.1 c4
      refine gv_iconst F dX3_noGroup_19 ?_
      exact ret 0 H locs 20 ls ⟨Or.inl rfl, h⟩ rfl hS dX3_noGroup_20
    · have h := h.2 c4
      refine gv_iconst F dX3_noGroup_15 ?_
      refine lv_goto (tgt := 20) F.1 F.2.1 dX3_noGroup_16 (by decide) ?_
      exact ret 1 H locs 20 ls ⟨Or.inr rfl, h⟩ rfl hS dX3_noGroup_20
abbrev rX3_performPlace : Room := { frames := 1, cells := 0, slots := 0, locals := 22 }
set_option maxHeartbeats 4000000 in
set_option maxRecDepth 20000 in
theorem c_X3_performPlace (l : Launch) (D : va_G) (cy : ClassId) (aO : Nat → Nat) (aL : Nat → Nat) (aN : Nat → Nat) (aT : Nat → Nat) (aK : Nat → Nat) (aI : Nat → Nat) (o : AR) (rw : AR) (rf : AR) (lg : AR) (sg : AR) (N : MS) (T : MS) (K : MS) (I : MS) (x1 x2 : Int) (Q : Int → MS → Prop) (h : wX3_performPlace N x1 x2 Q) : MetI l yX3_performPlace (wT yX3_performPlace cX3_performPlace 3 (some .boolean)) rX3_performPlace D cy [.ref (aO 0), .int (iI x1), .int (iI x2)] (wGh cy aO aL aN aT aK aI o rw rf lg sg N T K I) (fun u : MS => wGh cy aO aL aN aT aK aI o rw rf lg sg u T K I) (fun r u => (r = 0 ∨ r = 1) ∧ Q r u) := by
  refine gI_I (by decide) (Nat.le_of_ble_eq_true rfl) ?_
  intro p e s m args below meth c A Qg F hK hA ret H locs ls hl hP hD hS
  have F : CallFix p m c cX3_performPlace 3 s args gT RX3 := F
  have hl : lv_has ls 3 [(0, .ref (aO 0)), (1, .int (iI x1)), (2, .int (iI x2))] := hl
  refine lv_aload_n F.1 F.2.1 dX3_performPlace_0 rfl (lv_at hl 0 rfl) ?_
  refine lv_iload_n F.1 F.2.1 dX3_performPlace_1 rfl (lv_at hl 1 rfl) ?_
  refine gc_VR (As := [.int (iI x1)]) F hK hA hP hS hP (c_X3_noGroup l D cy aO aL aN aT aK aI o rw rf lg sg N T K I x1 _ h) (cwV 1 F.2.2.2.2 (gG_V k407 k409 k10 k61 k410) rfl rfl rfl hd_X3_noGroup ⟨Nat.le_of_ble_eq_true rfl, Nat.le_of_ble_eq_true rfl⟩) rfl rfl dX3_performPlace_2 rfl rfl hl.1 (Nat.le_of_ble_eq_true rfl) ⟨Nat.le_of_ble_eq_true rfl, Nat.le_of_ble_eq_true rfl⟩ (fun u1 H locs h hP hS => ?_)
  obtain ⟨bu1, h⟩ := h
  refine gv_if_ne (tgt := 15) F (gRb bu1) dX3_performPlace_5 (by decide) (fun c2 => ?_) (fun c2 => ?_)
  · have h := h.1 c2
    refine gv_iconst F dX3_performPlace_15 ?_
    exact ret 0 N H locs 16 ls ⟨Or.inl rfl, h⟩ rfl hP hD hS dX3_performPlace_16
  · have h := h.2 c2
    refine lv_iload_n F.1 F.2.1 dX3_performPlace_8 rfl (lv_at hl 2 rfl) ?_
    refine gc_SR (As := [.int (iI x2)]) F hK hA hP hS gPnil (c_X3_noRoom l D cy x2 _ h) (cwS 1 F.2.2.2.2 (gG_S k375 k376 k61 k377) rfl rfl rfl hd_X3_noRoom ⟨Nat.le_of_ble_eq_true rfl, Nat.le_of_ble_eq_true rfl⟩) dX3_performPlace_9 rfl rfl hl.1 (Nat.le_of_ble_eq_true rfl) ⟨Nat.le_of_ble_eq_true rfl, Nat.le_of_ble_eq_true rfl⟩ (fun u3 H locs h hP hS => ?_)
    obtain ⟨bu3, h⟩ := h
    refine gv_if_eq (tgt := 17) F (gRb bu3) dX3_performPlace_12 (by decide) (fun c4 => ?_) (fun c4 => ?_)
    · have h := h.1 c4
      refine lv_aload_n F.1 F.2.1 dX3_performPlace_17 rfl (lv_at hl 0 rfl) ?_
      refine gv_get F hin3 hK hP 0 rfl rfl 0 (by decide) k188 rfl dX3_performPlace_18 ?_
      refine lv_iload_n F.1 F.2.1 dX3_performPlace_21 rfl (lv_at hl 1 rfl) ?_
      refine lv_iload_n F.1 F.2.1 dX3_performPlace_22 rfl (lv_at hl 2 rfl) ?_
      refine gc_VV (As := [.int (iI x1), .int (iI x2)]) (wn := fun u : MS => wGh cy aO aL aN aT aK aI o rw rf lg sg u T K I) F hK hA hP hD hS (cp_gh_N hP) (cd_gh_N hD) (fun u H1 hk h1 _ => cj_gh_N hP hD u H1 hk h1) (c_X1_place l D cy aN N x1 x2 _ h) (cwV 2 F.2.2.2.2 (gG_V k411 k412 k413 k62 k414) rfl rfl rfl hd_X1_place ⟨Nat.le_of_ble_eq_true rfl, Nat.le_of_ble_eq_true rfl⟩) rfl rfl dX3_performPlace_23 rfl rfl hl.1 (Nat.le_of_ble_eq_true rfl) ⟨Nat.le_of_ble_eq_true rfl, Nat.le_of_ble_eq_true rfl⟩ (fun z5 H locs h hP hD hS => ?_)
      try dsimp only at h hP hD
      refine gv_iconst F dX3_performPlace_26 ?_
      exact ret 1 z5 H locs 27 ls ⟨Or.inr rfl, h⟩ rfl hP hD hS dX3_performPlace_27
    · have h := h.2 c4
      refine gv_iconst F dX3_performPlace_15 ?_
      exact ret 0 N H locs 16 ls ⟨Or.inl rfl, h⟩ rfl hP hD hS dX3_performPlace_16
abbrev rX3_noQuestion : Room := { frames := 0, cells := 0, slots := 0, locals := 0 }
set_option maxHeartbeats 4000000 in
set_option maxRecDepth 20000 in
theorem c_X3_noQuestion (l : Launch) (D : va_G) (cy : ClassId) (aO : Nat → Nat) (aL : Nat → Nat) (aN : Nat → Nat) (aT : Nat → Nat) (aK : Nat → Nat) (aI : Nat → Nat) (o : AR) (rw : AR) (rf : AR) (lg : AR) (sg : AR) (N : MS) (T : MS) (K : MS) (I : MS) (x1 : Int) (Q : Int → Prop) (h : wX3_noQuestion N x1 Q) : MetR l yX3_noQuestion (wT yX3_noQuestion cX3_noQuestion 2 (some .boolean)) rX3_noQuestion D cy [.ref (aO 0), .int (iI x1)] (wGh cy aO aL aN aT aK aI o rw rf lg sg N T K I) (fun u => (u = 0 ∨ u = 1) ∧ Q u) := by
  refine gI_R (by decide) (Nat.le_of_ble_eq_true rfl) ?_
  intro p e s m args below meth c A Qg F hK hA ret H locs ls hl hP hS
  have F : CallFix p m c cX3_noQuestion 2 s args gT RX3 := F
  have hl : lv_has ls 2 [(0, .ref (aO 0)), (1, .int (iI x1))] := hl
  refine lv_iload_n F.1 F.2.1 dX3_noQuestion_0 rfl (lv_at hl 1 rfl) ?_
  obtain ⟨g1, h⟩ := h
  refine gv_if_lt (tgt := 15) F g1 dX3_noQuestion_1 (by decide) (fun c2 => ?_) (fun c2 => ?_)
  · have h := h.1 c2
    refine gv_iconst F dX3_noQuestion_15 ?_
    refine lv_goto (tgt := 20) F.1 F.2.1 dX3_noQuestion_16 (by decide) ?_
    exact ret 1 H locs 20 ls ⟨Or.inr rfl, h⟩ rfl hS dX3_noQuestion_20
  · have h := h.2 c2
    refine lv_iload_n F.1 F.2.1 dX3_noQuestion_4 rfl (lv_at hl 1 rfl) ?_
    refine lv_aload_n F.1 F.2.1 dX3_noQuestion_5 rfl (lv_at hl 0 rfl) ?_
    refine gv_get F hin3 hK hP 0 rfl rfl 0 (by decide) k188 rfl dX3_noQuestion_6 ?_
    refine gv_get F hin1 hK (cp_gh_N hP) 0 rfl rfl 2 (by decide) k121 rfl dX3_noQuestion_9 ?_
    obtain ⟨g3, h⟩ := h
    refine gv_icmp_lt (tgt := 19) F g1 g3 dX3_noQuestion_12 (by decide) (fun c4 => ?_) (fun c4 => ?_)
    · have h := h.1 c4
      refine gv_iconst F dX3_noQuestion_19 ?_
      exact ret 0 H locs 20 ls ⟨Or.inl rfl, h⟩ rfl hS dX3_noQuestion_20
    · have h := h.2 c4
      refine gv_iconst F dX3_noQuestion_15 ?_
      refine lv_goto (tgt := 20) F.1 F.2.1 dX3_noQuestion_16 (by decide) ?_
      exact ret 1 H locs 20 ls ⟨Or.inr rfl, h⟩ rfl hS dX3_noQuestion_20
abbrev rX3_performAnswer : Room := { frames := 1, cells := 0, slots := 0, locals := 23 }
set_option maxHeartbeats 4000000 in
set_option maxRecDepth 20000 in
theorem c_X3_performAnswer (l : Launch) (D : va_G) (cy : ClassId) (aO : Nat → Nat) (aL : Nat → Nat) (aN : Nat → Nat) (aT : Nat → Nat) (aK : Nat → Nat) (aI : Nat → Nat) (o : AR) (rw : AR) (rf : AR) (lg : AR) (sg : AR) (N : MS) (T : MS) (K : MS) (I : MS) (x1 x2 x3 : Int) (Q : Int → MS → Prop) (h : wX3_performAnswer N x1 x2 x3 Q) : MetI l yX3_performAnswer (wT yX3_performAnswer cX3_performAnswer 4 (some .boolean)) rX3_performAnswer D cy [.ref (aO 0), .int (iI x1), .int (iI x2), .int (iI x3)] (wGh cy aO aL aN aT aK aI o rw rf lg sg N T K I) (fun u : MS => wGh cy aO aL aN aT aK aI o rw rf lg sg u T K I) (fun r u => (r = 0 ∨ r = 1) ∧ Q r u) := by
  refine gI_I (by decide) (Nat.le_of_ble_eq_true rfl) ?_
  intro p e s m args below meth c A Qg F hK hA ret H locs ls hl hP hD hS
  have F : CallFix p m c cX3_performAnswer 4 s args gT RX3 := F
  have hl : lv_has ls 4 [(0, .ref (aO 0)), (1, .int (iI x1)), (2, .int (iI x2)), (3, .int (iI x3))] := hl
  refine lv_aload_n F.1 F.2.1 dX3_performAnswer_0 rfl (lv_at hl 0 rfl) ?_
  refine lv_iload_n F.1 F.2.1 dX3_performAnswer_1 rfl (lv_at hl 1 rfl) ?_
  refine gc_VR (As := [.int (iI x1)]) F hK hA hP hS hP (c_X3_noGroup l D cy aO aL aN aT aK aI o rw rf lg sg N T K I x1 _ h) (cwV 1 F.2.2.2.2 (gG_V k407 k409 k10 k61 k410) rfl rfl rfl hd_X3_noGroup ⟨Nat.le_of_ble_eq_true rfl, Nat.le_of_ble_eq_true rfl⟩) rfl rfl dX3_performAnswer_2 rfl rfl hl.1 (Nat.le_of_ble_eq_true rfl) ⟨Nat.le_of_ble_eq_true rfl, Nat.le_of_ble_eq_true rfl⟩ (fun u1 H locs h hP hS => ?_)
  obtain ⟨bu1, h⟩ := h
  refine gv_if_ne (tgt := 16) F (gRb bu1) dX3_performAnswer_5 (by decide) (fun c2 => ?_) (fun c2 => ?_)
  · have h := h.1 c2
    refine gv_iconst F dX3_performAnswer_16 ?_
    exact ret 0 N H locs 17 ls ⟨Or.inl rfl, h⟩ rfl hP hD hS dX3_performAnswer_17
  · have h := h.2 c2
    refine lv_aload_n F.1 F.2.1 dX3_performAnswer_8 rfl (lv_at hl 0 rfl) ?_
    refine lv_iload_n F.1 F.2.1 dX3_performAnswer_9 rfl (lv_at hl 2 rfl) ?_
    refine gc_VR (As := [.int (iI x2)]) F hK hA hP hS hP (c_X3_noQuestion l D cy aO aL aN aT aK aI o rw rf lg sg N T K I x2 _ h) (cwV 1 F.2.2.2.2 (gG_V k419 k421 k12 k61 k422) rfl rfl rfl hd_X3_noQuestion ⟨Nat.le_of_ble_eq_true rfl, Nat.le_of_ble_eq_true rfl⟩) rfl rfl dX3_performAnswer_10 rfl rfl hl.1 (Nat.le_of_ble_eq_true rfl) ⟨Nat.le_of_ble_eq_true rfl, Nat.le_of_ble_eq_true rfl⟩ (fun u3 H locs h hP hS => ?_)
    obtain ⟨bu3, h⟩ := h
    refine gv_if_eq (tgt := 18) F (gRb bu3) dX3_performAnswer_13 (by decide) (fun c4 => ?_) (fun c4 => ?_)
    · have h := h.1 c4
      refine lv_aload_n F.1 F.2.1 dX3_performAnswer_18 rfl (lv_at hl 0 rfl) ?_
      refine gv_get F hin3 hK hP 0 rfl rfl 0 (by decide) k188 rfl dX3_performAnswer_19 ?_
      refine lv_iload_n F.1 F.2.1 dX3_performAnswer_22 rfl (lv_at hl 1 rfl) ?_
      refine lv_iload_n F.1 F.2.1 dX3_performAnswer_23 rfl (lv_at hl 2 rfl) ?_
      refine lv_iload_n F.1 F.2.1 dX3_performAnswer_24 rfl (lv_at hl 3 rfl) ?_
      refine gc_VV (As := [.int (iI x1), .int (iI x2), .int (iI x3)]) (wn := fun u : MS => wGh cy aO aL aN aT aK aI o rw rf lg sg u T K I) F hK hA hP hD hS (cp_gh_N hP) (cd_gh_N hD) (fun u H1 hk h1 _ => cj_gh_N hP hD u H1 hk h1) (c_X1_fill l D cy aN N x1 x2 x3 _ h) (cwV 3 F.2.2.2.2 (gG_V k423 k424 k425 k62 k426) rfl rfl rfl hd_X1_fill ⟨Nat.le_of_ble_eq_true rfl, Nat.le_of_ble_eq_true rfl⟩) rfl rfl dX3_performAnswer_25 rfl rfl hl.1 (Nat.le_of_ble_eq_true rfl) ⟨Nat.le_of_ble_eq_true rfl, Nat.le_of_ble_eq_true rfl⟩ (fun z5 H locs h hP hD hS => ?_)
      try dsimp only at h hP hD
      refine gv_iconst F dX3_performAnswer_28 ?_
      exact ret 1 z5 H locs 29 ls ⟨Or.inr rfl, h⟩ rfl hP hD hS dX3_performAnswer_29
    · have h := h.2 c4
      refine gv_iconst F dX3_performAnswer_16 ?_
      exact ret 0 N H locs 17 ls ⟨Or.inl rfl, h⟩ rfl hP hD hS dX3_performAnswer_17
abbrev rX3_performMinutes : Room := { frames := 4, cells := 0, slots := 0, locals := 91 }
set_option maxHeartbeats 4000000 in
set_option maxRecDepth 20000 in
theorem c_X3_performMinutes (l : Launch) (D : va_G) (cy : ClassId) (aO : Nat → Nat) (aL : Nat → Nat) (aN : Nat → Nat) (aT : Nat → Nat) (aK : Nat → Nat) (aI : Nat → Nat) (o : AR) (rw : AR) (rf : AR) (lg : AR) (sg : AR) (N : MS) (T : MS) (K : MS) (I : MS) (x1 : Int) (Q : Int → MS → Prop) (h : wX3_performMinutes N x1 Q) : MetI l yX3_performMinutes (wT yX3_performMinutes cX3_performMinutes 2 (some .boolean)) rX3_performMinutes D cy [.ref (aO 0), .int (iI x1)] (wGh cy aO aL aN aT aK aI o rw rf lg sg N T K I) (fun u : MS => wGh cy aO aL aN aT aK aI o rw rf lg sg u T K I) (fun r u => (r = 0 ∨ r = 1) ∧ Q r u) := by
  refine gI_I (by decide) (Nat.le_of_ble_eq_true rfl) ?_
  intro p e s m args below meth c A Qg F hK hA ret H locs ls hl hP hD hS
  have F : CallFix p m c cX3_performMinutes 2 s args gT RX3 := F
  have hl : lv_has ls 2 [(0, .ref (aO 0)), (1, .int (iI x1))] := hl
  refine lv_iload_n F.1 F.2.1 dX3_performMinutes_0 rfl (lv_at hl 1 rfl) ?_
  refine gv_iconst F dX3_performMinutes_1 ?_
  obtain ⟨g1, h⟩ := h
  refine gv_icmp_lt (tgt := 26) F g1 ⟨by decide, by decide⟩ dX3_performMinutes_2 (by decide) (fun c2 => ?_) (fun c2 => ?_)
  · have h := h.1 c2
    refine gv_iconst F dX3_performMinutes_26 ?_
    exact ret 0 N H locs 27 ls ⟨Or.inl rfl, h⟩ rfl hP hD hS dX3_performMinutes_27
  · have h := h.2 c2
    refine lv_iload_n F.1 F.2.1 dX3_performMinutes_5 rfl (lv_at hl 1 rfl) ?_
    refine gv_bipush F ⟨by decide, by decide⟩ dX3_performMinutes_6 ?_
    refine gv_icmp_gt (tgt := 26) F g1 ⟨by decide, by decide⟩ dX3_performMinutes_8 (by decide) (fun c3 => ?_) (fun c3 => ?_)
    · have h := h.1 c3
      refine gv_iconst F dX3_performMinutes_26 ?_
      exact ret 0 N H locs 27 ls ⟨Or.inl rfl, h⟩ rfl hP hD hS dX3_performMinutes_27
    · have h := h.2 c3
      refine lv_aload_n F.1 F.2.1 dX3_performMinutes_11 rfl (lv_at hl 0 rfl) ?_
      refine gv_get F hin3 hK hP 0 rfl rfl 0 (by decide) k188 rfl dX3_performMinutes_12 ?_
      refine gv_get F hin1 hK (cp_gh_N hP) 0 rfl rfl 1 (by decide) k119 rfl dX3_performMinutes_15 ?_
      refine lv_iload_n F.1 F.2.1 dX3_performMinutes_18 rfl (lv_at hl 1 rfl) ?_
      refine gv_iadd F dX3_performMinutes_19 ?_
      refine gv_sipush F ⟨by decide, by decide⟩ dX3_performMinutes_20 ?_
      obtain ⟨g4, h⟩ := h
      refine gv_icmp_le (tgt := 28) F g4 ⟨by decide, by decide⟩ dX3_performMinutes_23 (by decide) (fun c5 => ?_) (fun c5 => ?_)
      · have h := h.1 c5
        refine lv_aload_n F.1 F.2.1 dX3_performMinutes_28 rfl (lv_at hl 0 rfl) ?_
        refine gv_get F hin3 hK hP 0 rfl rfl 0 (by decide) k188 rfl dX3_performMinutes_29 ?_
        refine lv_iload_n F.1 F.2.1 dX3_performMinutes_32 rfl (lv_at hl 1 rfl) ?_
        refine gc_VV (As := [.int (iI x1)]) (wn := fun u : MS => wGh cy aO aL aN aT aK aI o rw rf lg sg u T K I) F hK hA hP hD hS (cp_gh_N hP) (cd_gh_N hD) (fun u H1 hk h1 _ => cj_gh_N hP hD u H1 hk h1) (c_X1_passMinutes l D cy aN N x1 _ h) (cwV 1 F.2.2.2.2 (gG_V k431 k432 k433 k62 k434) rfl rfl rfl hd_X1_passMinutes ⟨Nat.le_of_ble_eq_true rfl, Nat.le_of_ble_eq_true rfl⟩) rfl rfl dX3_performMinutes_33 rfl rfl hl.1 (Nat.le_of_ble_eq_true rfl) ⟨Nat.le_of_ble_eq_true rfl, Nat.le_of_ble_eq_true rfl⟩ (fun z6 H locs h hP hD hS => ?_)
        try dsimp only at h hP hD
        refine gv_iconst F dX3_performMinutes_36 ?_
        exact ret 1 z6 H locs 37 ls ⟨Or.inr rfl, h⟩ rfl hP hD hS dX3_performMinutes_37
      · have h := h.2 c5
        refine gv_iconst F dX3_performMinutes_26 ?_
        exact ret 0 N H locs 27 ls ⟨Or.inl rfl, h⟩ rfl hP hD hS dX3_performMinutes_27
abbrev rX3_door : Room := { frames := 1, cells := 0, slots := 0, locals := 23 }
set_option maxHeartbeats 4000000 in
set_option maxRecDepth 20000 in
theorem c_X3_door (l : Launch) (D : va_G) (cy : ClassId) (aO : Nat → Nat) (aL : Nat → Nat) (aN : Nat → Nat) (aT : Nat → Nat) (aK : Nat → Nat) (aI : Nat → Nat) (o : AR) (rw : AR) (rf : AR) (lg : AR) (sg : AR) (N : MS) (T : MS) (K : MS) (I : MS) (x1 x2 : Int) (Q : Int → AR → Prop) (h : wX3_door rf N x1 x2 Q) : MetI l yX3_door (wT yX3_door cX3_door 3 (some .int)) rX3_door D cy [.ref (aO 0), .int (iI x1), .int (iI x2)] (wGh cy aO aL aN aT aK aI o rw rf lg sg N T K I) (fun u : AR => wGh cy aO aL aN aT aK aI o rw u lg sg N T K I) (fun r u => Q r u) := by
  refine gI_I (by decide) (Nat.le_of_ble_eq_true rfl) ?_
  intro p e s m args below meth c A Qg F hK hA ret H locs ls hl hP hD hS
  have F : CallFix p m c cX3_door 3 s args gT RX3 := F
  have hl : lv_has ls 3 [(0, .ref (aO 0)), (1, .int (iI x1)), (2, .int (iI x2))] := hl
  refine lv_iload_n F.1 F.2.1 dX3_door_0 rfl (lv_at hl 1 rfl) ?_
  refine gc_SR (As := [.int (iI x1)]) F hK hA hP hS gPnil (c_X3_noRoom l D cy x1 _ h) (cwS 1 F.2.2.2.2 (gG_S k375 k376 k61 k377) rfl rfl rfl hd_X3_noRoom ⟨Nat.le_of_ble_eq_true rfl, Nat.le_of_ble_eq_true rfl⟩) dX3_door_1 rfl rfl hl.1 (Nat.le_of_ble_eq_true rfl) ⟨Nat.le_of_ble_eq_true rfl, Nat.le_of_ble_eq_true rfl⟩ (fun u1 H locs h hP hS => ?_)
  obtain ⟨bu1, h⟩ := h
  refine gv_if_ne (tgt := 14) F (gRb bu1) dX3_door_4 (by decide) (fun c2 => ?_) (fun c2 => ?_)
  · have h := h.1 c2
    refine lv_aload_n F.1 F.2.1 dX3_door_14 rfl (lv_at hl 0 rfl) ?_
    refine gv_iconst F dX3_door_15 ?_
    refine gc_VI (As := [.int (iI (-1))]) (wn := fun u : AR => wGh cy aO aL aN aT aK aI o rw u lg sg N T K I) F hK hA hP hD hS hP hD (fun u H1 _ h1 h2 => ⟨h1, h2⟩) (c_X3_refuse l D cy aO aL aN aT aK aI o rw rf lg sg N T K I (-1) _ h) (cwV 1 F.2.2.2.2 (gG_V k220 k222 k2 k61 k223) rfl rfl rfl hd_X3_refuse ⟨Nat.le_of_ble_eq_true rfl, Nat.le_of_ble_eq_true rfl⟩) rfl rfl dX3_door_16 rfl rfl hl.1 (Nat.le_of_ble_eq_true rfl) ⟨Nat.le_of_ble_eq_true rfl, Nat.le_of_ble_eq_true rfl⟩ (fun u4 z3 H locs h hP hD hS => ?_)
    try dsimp only at h hP hD
    exact ret u4 z3 H locs 19 ls h rfl hP hD hS dX3_door_19
  · have h := h.2 c2
    refine lv_iload_n F.1 F.2.1 dX3_door_7 rfl (lv_at hl 2 rfl) ?_
    refine gc_SR (As := [.int (iI x2)]) F hK hA hP hS gPnil (c_X3_noRoom l D cy x2 _ h) (cwS 1 F.2.2.2.2 (gG_S k375 k376 k61 k377) rfl rfl rfl hd_X3_noRoom ⟨Nat.le_of_ble_eq_true rfl, Nat.le_of_ble_eq_true rfl⟩) dX3_door_8 rfl rfl hl.1 (Nat.le_of_ble_eq_true rfl) ⟨Nat.le_of_ble_eq_true rfl, Nat.le_of_ble_eq_true rfl⟩ (fun u5 H locs h hP hS => ?_)
    obtain ⟨bu5, h⟩ := h
    refine gv_if_eq (tgt := 20) F (gRb bu5) dX3_door_11 (by decide) (fun c6 => ?_) (fun c6 => ?_)
    · have h := h.1 c6
      refine lv_aload_n F.1 F.2.1 dX3_door_20 rfl (lv_at hl 0 rfl) ?_
      refine gv_get F hin3 hK hP 0 rfl rfl 0 (by decide) k188 rfl dX3_door_21 ?_
      refine gv_get F hin1 hK (cp_gh_N hP) 0 rfl rfl 0 (by decide) k117 rfl dX3_door_24 ?_
      refine lv_iload_n F.1 F.2.1 dX3_door_27 rfl (lv_at hl 1 rfl) ?_
      refine lv_iload_n F.1 F.2.1 dX3_door_28 rfl (lv_at hl 2 rfl) ?_
      refine gc_VR (As := [.int (iI x1), .int (iI x2)]) F hK hA hP hS (cp_gh_Nr hP) (c_X2_distance l D cy (fun k => aN (k + 1)) (N 2) (N 3) x1 x2 _ h) (cwV 2 F.2.2.2.2 (gG_V k483 k484 k485 k63 k486) rfl rfl rfl hd_X2_distance ⟨Nat.le_of_ble_eq_true rfl, Nat.le_of_ble_eq_true rfl⟩) rfl rfl dX3_door_29 rfl rfl hl.1 (Nat.le_of_ble_eq_true rfl) ⟨Nat.le_of_ble_eq_true rfl, Nat.le_of_ble_eq_true rfl⟩ (fun u7 H locs h hP hS => ?_)
      exact ret u7 rf H locs 32 ls h rfl hP hD hS dX3_door_32
    · have h := h.2 c6
      refine lv_aload_n F.1 F.2.1 dX3_door_14 rfl (lv_at hl 0 rfl) ?_
      refine gv_iconst F dX3_door_15 ?_
      refine gc_VI (As := [.int (iI (-1))]) (wn := fun u : AR => wGh cy aO aL aN aT aK aI o rw u lg sg N T K I) F hK hA hP hD hS hP hD (fun u H1 _ h1 h2 => ⟨h1, h2⟩) (c_X3_refuse l D cy aO aL aN aT aK aI o rw rf lg sg N T K I (-1) _ h) (cwV 1 F.2.2.2.2 (gG_V k220 k222 k2 k61 k223) rfl rfl rfl hd_X3_refuse ⟨Nat.le_of_ble_eq_true rfl, Nat.le_of_ble_eq_true rfl⟩) rfl rfl dX3_door_16 rfl rfl hl.1 (Nat.le_of_ble_eq_true rfl) ⟨Nat.le_of_ble_eq_true rfl, Nat.le_of_ble_eq_true rfl⟩ (fun u9 z8 H locs h hP hD hS => ?_)
      try dsimp only at h hP hD
      exact ret u9 z8 H locs 19 ls h rfl hP hD hS dX3_door_19
abbrev rX3_question : Room := { frames := 1, cells := 0, slots := 0, locals := 21 }
set_option maxHeartbeats 4000000 in
set_option maxRecDepth 20000 in
theorem c_X3_question (l : Launch) (D : va_G) (cy : ClassId) (aO : Nat → Nat) (aL : Nat → Nat) (aN : Nat → Nat) (aT : Nat → Nat) (aK : Nat → Nat) (aI : Nat → Nat) (o : AR) (rw : AR) (rf : AR) (lg : AR) (sg : AR) (N : MS) (T : MS) (K : MS) (I : MS) (x1 x2 : Int) (Q : Int → AR → Prop) (h : wX3_question rf N x1 x2 Q) : MetI l yX3_question (wT yX3_question cX3_question 3 (some .int)) rX3_question D cy [.ref (aO 0), .int (iI x1), .int (iI x2)] (wGh cy aO aL aN aT aK aI o rw rf lg sg N T K I) (fun u : AR => wGh cy aO aL aN aT aK aI o rw u lg sg N T K I) (fun r u => Q r u) := by
  refine gI_I (by decide) (Nat.le_of_ble_eq_true rfl) ?_
  intro p e s m args below meth c A Qg F hK hA ret H locs ls hl hP hD hS
  have F : CallFix p m c cX3_question 3 s args gT RX3 := F
  have hl : lv_has ls 3 [(0, .ref (aO 0)), (1, .int (iI x1)), (2, .int (iI x2))] := hl
  refine lv_aload_n F.1 F.2.1 dX3_question_0 rfl (lv_at hl 0 rfl) ?_
  refine lv_iload_n F.1 F.2.1 dX3_question_1 rfl (lv_at hl 1 rfl) ?_
  refine gc_VR (As := [.int (iI x1)]) F hK hA hP hS hP (c_X3_noQuestion l D cy aO aL aN aT aK aI o rw rf lg sg N T K I x1 _ h) (cwV 1 F.2.2.2.2 (gG_V k419 k421 k12 k61 k422) rfl rfl rfl hd_X3_noQuestion ⟨Nat.le_of_ble_eq_true rfl, Nat.le_of_ble_eq_true rfl⟩) rfl rfl dX3_question_2 rfl rfl hl.1 (Nat.le_of_ble_eq_true rfl) ⟨Nat.le_of_ble_eq_true rfl, Nat.le_of_ble_eq_true rfl⟩ (fun u1 H locs h hP hS => ?_)
  obtain ⟨bu1, h⟩ := h
  refine gv_if_eq (tgt := 14) F (gRb bu1) dX3_question_5 (by decide) (fun c2 => ?_) (fun c2 => ?_)
  · have h := h.1 c2
    refine lv_iload_n F.1 F.2.1 dX3_question_14 rfl (lv_at hl 2 rfl) ?_
    obtain ⟨g3, h⟩ := h
    by_cases c4 : x2 = 0
    · have h := h.1 c4
      refine gv_tableIn (tgt := 48) (off := 33) F g3 c4 (by decide) (by decide) dX3_question_15 rfl (by decide) ?_
      refine lv_aload_n F.1 F.2.1 dX3_question_48 rfl (lv_at hl 0 rfl) ?_
      refine gv_get F hin3 hK hP 0 rfl rfl 0 (by decide) k188 rfl dX3_question_49 ?_
      refine gv_get F hin1 hK (cp_gh_N hP) 0 rfl rfl 3 (by decide) k123 rfl dX3_question_52 ?_
      refine lv_iload_n F.1 F.2.1 dX3_question_55 rfl (lv_at hl 1 rfl) ?_
      obtain ⟨g5, h⟩ := h
      refine gv_iald (n := 8) (g := (N 4)) F hK (cp_gh_N hP) 4 rfl rfl (by decide) g5 dX3_question_56 ?_
      exact ret ((N 4) x1) rf H locs 57 ls h rfl hP hD hS dX3_question_57
    by_cases c6 : x2 = 1
    · have h := h.2.1 c6
      refine gv_tableIn (tgt := 58) (off := 43) F g3 c6 (by decide) (by decide) dX3_question_15 rfl (by decide) ?_
      refine lv_aload_n F.1 F.2.1 dX3_question_58 rfl (lv_at hl 0 rfl) ?_
      refine gv_get F hin3 hK hP 0 rfl rfl 0 (by decide) k188 rfl dX3_question_59 ?_
      refine gv_get F hin1 hK (cp_gh_N hP) 0 rfl rfl 4 (by decide) k125 rfl dX3_question_62 ?_
      refine lv_iload_n F.1 F.2.1 dX3_question_65 rfl (lv_at hl 1 rfl) ?_
      obtain ⟨g7, h⟩ := h
      refine gv_iald (n := 8) (g := (N 5)) F hK (cp_gh_N hP) 5 rfl rfl (by decide) g7 dX3_question_66 ?_
      exact ret ((N 5) x1) rf H locs 67 ls h rfl hP hD hS dX3_question_67
    by_cases c8 : x2 = 2
    · have h := h.2.2.1 c8
      refine gv_tableIn (tgt := 68) (off := 53) F g3 c8 (by decide) (by decide) dX3_question_15 rfl (by decide) ?_
      refine lv_aload_n F.1 F.2.1 dX3_question_68 rfl (lv_at hl 0 rfl) ?_
      refine gv_get F hin3 hK hP 0 rfl rfl 0 (by decide) k188 rfl dX3_question_69 ?_
      refine gv_get F hin1 hK (cp_gh_N hP) 0 rfl rfl 5 (by decide) k127 rfl dX3_question_72 ?_
      refine lv_iload_n F.1 F.2.1 dX3_question_75 rfl (lv_at hl 1 rfl) ?_
      obtain ⟨g9, h⟩ := h
      refine gv_iald (n := 8) (g := (N 6)) F hK (cp_gh_N hP) 6 rfl rfl (by decide) g9 dX3_question_76 ?_
      exact ret ((N 6) x1) rf H locs 77 ls h rfl hP hD hS dX3_question_77
    by_cases c10 : x2 = 3
    · have h := h.2.2.2.1 c10
      refine gv_tableIn (tgt := 78) (off := 63) F g3 c10 (by decide) (by decide) dX3_question_15 rfl (by decide) ?_
      refine lv_aload_n F.1 F.2.1 dX3_question_78 rfl (lv_at hl 0 rfl) ?_
      refine gv_get F hin3 hK hP 0 rfl rfl 0 (by decide) k188 rfl dX3_question_79 ?_
      refine gv_get F hin1 hK (cp_gh_N hP) 0 rfl rfl 6 (by decide) k129 rfl dX3_question_82 ?_
      refine lv_iload_n F.1 F.2.1 dX3_question_85 rfl (lv_at hl 1 rfl) ?_
      obtain ⟨g11, h⟩ := h
      refine gv_iald (n := 8) (g := (N 7)) F hK (cp_gh_N hP) 7 rfl rfl (by decide) g11 dX3_question_86 ?_
      exact ret ((N 7) x1) rf H locs 87 ls h rfl hP hD hS dX3_question_87
    by_cases c12 : x2 = 4
    · have h := h.2.2.2.2.1 c12
      refine gv_tableIn (tgt := 88) (off := 73) F g3 c12 (by decide) (by decide) dX3_question_15 rfl (by decide) ?_
      refine lv_aload_n F.1 F.2.1 dX3_question_88 rfl (lv_at hl 0 rfl) ?_
      refine gv_get F hin3 hK hP 0 rfl rfl 0 (by decide) k188 rfl dX3_question_89 ?_
      refine lv_iload_n F.1 F.2.1 dX3_question_92 rfl (lv_at hl 1 rfl) ?_
      refine gc_VR (As := [.int (iI x1)]) F hK hA hP hS (cp_gh_N hP) (c_X1_minutesFor l D cy aN N x1 _ h) (cwV 1 F.2.2.2.2 (gG_V k491 k453 k454 k62 k455) rfl rfl rfl hd_X1_minutesFor ⟨Nat.le_of_ble_eq_true rfl, Nat.le_of_ble_eq_true rfl⟩) rfl rfl dX3_question_93 rfl rfl hl.1 (Nat.le_of_ble_eq_true rfl) ⟨Nat.le_of_ble_eq_true rfl, Nat.le_of_ble_eq_true rfl⟩ (fun u13 H locs h hP hS => ?_)
      exact ret u13 rf H locs 96 ls h rfl hP hD hS dX3_question_96
    have cd : x2 < 0 ∨ 4 < x2 := by omega
    have h := h.2.2.2.2.2 cd
    refine gv_tableOut (tgt := 97) F g3 cd dX3_question_15 (by decide) ?_
    refine lv_aload_n F.1 F.2.1 dX3_question_97 rfl (lv_at hl 0 rfl) ?_
    refine gv_bipush F ⟨by decide, by decide⟩ dX3_question_98 ?_
    refine gc_VI (As := [.int (iI (-2))]) (wn := fun u : AR => wGh cy aO aL aN aT aK aI o rw u lg sg N T K I) F hK hA hP hD hS hP hD (fun u H1 _ h1 h2 => ⟨h1, h2⟩) (c_X3_refuse l D cy aO aL aN aT aK aI o rw rf lg sg N T K I (-2) _ h) (cwV 1 F.2.2.2.2 (gG_V k220 k222 k2 k61 k223) rfl rfl rfl hd_X3_refuse ⟨Nat.le_of_ble_eq_true rfl, Nat.le_of_ble_eq_true rfl⟩) rfl rfl dX3_question_100 rfl rfl hl.1 (Nat.le_of_ble_eq_true rfl) ⟨Nat.le_of_ble_eq_true rfl, Nat.le_of_ble_eq_true rfl⟩ (fun u15 z14 H locs h hP hD hS => ?_)
    try dsimp only at h hP hD
    exact ret u15 z14 H locs 103 ls h rfl hP hD hS dX3_question_103
  · have h := h.2 c2
    refine lv_aload_n F.1 F.2.1 dX3_question_8 rfl (lv_at hl 0 rfl) ?_
    refine gv_iconst F dX3_question_9 ?_
    refine gc_VI (As := [.int (iI (-1))]) (wn := fun u : AR => wGh cy aO aL aN aT aK aI o rw u lg sg N T K I) F hK hA hP hD hS hP hD (fun u H1 _ h1 h2 => ⟨h1, h2⟩) (c_X3_refuse l D cy aO aL aN aT aK aI o rw rf lg sg N T K I (-1) _ h) (cwV 1 F.2.2.2.2 (gG_V k220 k222 k2 k61 k223) rfl rfl rfl hd_X3_refuse ⟨Nat.le_of_ble_eq_true rfl, Nat.le_of_ble_eq_true rfl⟩) rfl rfl dX3_question_10 rfl rfl hl.1 (Nat.le_of_ble_eq_true rfl) ⟨Nat.le_of_ble_eq_true rfl, Nat.le_of_ble_eq_true rfl⟩ (fun u17 z16 H locs h hP hD hS => ?_)
    try dsimp only at h hP hD
    exact ret u17 z16 H locs 13 ls h rfl hP hD hS dX3_question_13
abbrev rX3_group : Room := { frames := 1, cells := 0, slots := 0, locals := 23 }
set_option maxHeartbeats 4000000 in
set_option maxRecDepth 20000 in
theorem c_X3_group (l : Launch) (D : va_G) (cy : ClassId) (aO : Nat → Nat) (aL : Nat → Nat) (aN : Nat → Nat) (aT : Nat → Nat) (aK : Nat → Nat) (aI : Nat → Nat) (o : AR) (rw : AR) (rf : AR) (lg : AR) (sg : AR) (N : MS) (T : MS) (K : MS) (I : MS) (x1 x2 : Int) (Q : Int → AR → Prop) (h : wX3_group rf N x1 x2 Q) : MetI l yX3_group (wT yX3_group cX3_group 3 (some .int)) rX3_group D cy [.ref (aO 0), .int (iI x1), .int (iI x2)] (wGh cy aO aL aN aT aK aI o rw rf lg sg N T K I) (fun u : AR => wGh cy aO aL aN aT aK aI o rw u lg sg N T K I) (fun r u => Q r u) := by
  refine gI_I (by decide) (Nat.le_of_ble_eq_true rfl) ?_
  intro p e s m args below meth c A Qg F hK hA ret H locs ls hl hP hD hS
  have F : CallFix p m c cX3_group 3 s args gT RX3 := F
  have hl : lv_has ls 3 [(0, .ref (aO 0)), (1, .int (iI x1)), (2, .int (iI x2))] := hl
  refine lv_aload_n F.1 F.2.1 dX3_group_0 rfl (lv_at hl 0 rfl) ?_
  refine lv_iload_n F.1 F.2.1 dX3_group_1 rfl (lv_at hl 1 rfl) ?_
  refine gc_VR (As := [.int (iI x1)]) F hK hA hP hS hP (c_X3_noGroup l D cy aO aL aN aT aK aI o rw rf lg sg N T K I x1 _ h) (cwV 1 F.2.2.2.2 (gG_V k407 k409 k10 k61 k410) rfl rfl rfl hd_X3_noGroup ⟨Nat.le_of_ble_eq_true rfl, Nat.le_of_ble_eq_true rfl⟩) rfl rfl dX3_group_2 rfl rfl hl.1 (Nat.le_of_ble_eq_true rfl) ⟨Nat.le_of_ble_eq_true rfl, Nat.le_of_ble_eq_true rfl⟩ (fun u1 H locs h hP hS => ?_)
  obtain ⟨bu1, h⟩ := h
  refine gv_if_eq (tgt := 14) F (gRb bu1) dX3_group_5 (by decide) (fun c2 => ?_) (fun c2 => ?_)
  · have h := h.1 c2
    refine lv_iload_n F.1 F.2.1 dX3_group_14 rfl (lv_at hl 2 rfl) ?_
    obtain ⟨g3, h⟩ := h
    by_cases c4 : x2 = 0
    · have h := h.1 c4
      refine gv_tableIn (tgt := 52) (off := 37) F g3 c4 (by decide) (by decide) dX3_group_15 rfl (by decide) ?_
      refine lv_aload_n F.1 F.2.1 dX3_group_52 rfl (lv_at hl 0 rfl) ?_
      refine gv_get F hin3 hK hP 0 rfl rfl 0 (by decide) k188 rfl dX3_group_53 ?_
      refine gv_get F hin1 hK (cp_gh_N hP) 0 rfl rfl 8 (by decide) k133 rfl dX3_group_56 ?_
      refine lv_iload_n F.1 F.2.1 dX3_group_59 rfl (lv_at hl 1 rfl) ?_
      obtain ⟨g5, h⟩ := h
      refine gv_iald (n := 5) (g := (N 8)) F hK (cp_gh_N hP) 8 rfl rfl (by decide) g5 dX3_group_60 ?_
      exact ret ((N 8) x1) rf H locs 61 ls h rfl hP hD hS dX3_group_61
    by_cases c6 : x2 = 1
    · have h := h.2.1 c6
      refine gv_tableIn (tgt := 62) (off := 47) F g3 c6 (by decide) (by decide) dX3_group_15 rfl (by decide) ?_
      refine lv_aload_n F.1 F.2.1 dX3_group_62 rfl (lv_at hl 0 rfl) ?_
      refine gv_get F hin3 hK hP 0 rfl rfl 0 (by decide) k188 rfl dX3_group_63 ?_
      refine gv_get F hin1 hK (cp_gh_N hP) 0 rfl rfl 9 (by decide) k135 rfl dX3_group_66 ?_
      refine lv_iload_n F.1 F.2.1 dX3_group_69 rfl (lv_at hl 1 rfl) ?_
      obtain ⟨g7, h⟩ := h
      refine gv_iald (n := 5) (g := (N 9)) F hK (cp_gh_N hP) 9 rfl rfl (by decide) g7 dX3_group_70 ?_
      exact ret ((N 9) x1) rf H locs 71 ls h rfl hP hD hS dX3_group_71
    by_cases c8 : x2 = 2
    · have h := h.2.2.1 c8
      refine gv_tableIn (tgt := 72) (off := 57) F g3 c8 (by decide) (by decide) dX3_group_15 rfl (by decide) ?_
      refine lv_aload_n F.1 F.2.1 dX3_group_72 rfl (lv_at hl 0 rfl) ?_
      refine gv_get F hin3 hK hP 0 rfl rfl 0 (by decide) k188 rfl dX3_group_73 ?_
      refine gv_get F hin1 hK (cp_gh_N hP) 0 rfl rfl 10 (by decide) k137 rfl dX3_group_76 ?_
      refine lv_iload_n F.1 F.2.1 dX3_group_79 rfl (lv_at hl 1 rfl) ?_
      obtain ⟨g9, h⟩ := h
      refine gv_iald (n := 5) (g := (N 10)) F hK (cp_gh_N hP) 10 rfl rfl (by decide) g9 dX3_group_80 ?_
      exact ret ((N 10) x1) rf H locs 81 ls h rfl hP hD hS dX3_group_81
    by_cases c10 : x2 = 3
    · have h := h.2.2.2.1 c10
      refine gv_tableIn (tgt := 82) (off := 67) F g3 c10 (by decide) (by decide) dX3_group_15 rfl (by decide) ?_
      refine lv_aload_n F.1 F.2.1 dX3_group_82 rfl (lv_at hl 0 rfl) ?_
      refine gv_get F hin3 hK hP 0 rfl rfl 0 (by decide) k188 rfl dX3_group_83 ?_
      refine gv_get F hin1 hK (cp_gh_N hP) 0 rfl rfl 11 (by decide) k139 rfl dX3_group_86 ?_
      refine lv_iload_n F.1 F.2.1 dX3_group_89 rfl (lv_at hl 1 rfl) ?_
      obtain ⟨g11, h⟩ := h
      refine gv_iald (n := 5) (g := (N 11)) F hK (cp_gh_N hP) 11 rfl rfl (by decide) g11 dX3_group_90 ?_
      exact ret ((N 11) x1) rf H locs 91 ls h rfl hP hD hS dX3_group_91
    by_cases c12 : x2 = 4
    · have h := h.2.2.2.2.1 c12
      refine gv_tableIn (tgt := 92) (off := 77) F g3 c12 (by decide) (by decide) dX3_group_15 rfl (by decide) ?_
      refine lv_aload_n F.1 F.2.1 dX3_group_92 rfl (lv_at hl 0 rfl) ?_
      refine gv_get F hin3 hK hP 0 rfl rfl 0 (by decide) k188 rfl dX3_group_93 ?_
      refine gv_get F hin1 hK (cp_gh_N hP) 0 rfl rfl 12 (by decide) k141 rfl dX3_group_96 ?_
      refine lv_iload_n F.1 F.2.1 dX3_group_99 rfl (lv_at hl 1 rfl) ?_
      obtain ⟨g13, h⟩ := h
      refine gv_iald (n := 5) (g := (N 12)) F hK (cp_gh_N hP) 12 rfl rfl (by decide) g13 dX3_group_100 ?_
      exact ret ((N 12) x1) rf H locs 101 ls h rfl hP hD hS dX3_group_101
    by_cases c14 : x2 = 5
    · have h := h.2.2.2.2.2.1 c14
      refine gv_tableIn (tgt := 102) (off := 87) F g3 c14 (by decide) (by decide) dX3_group_15 rfl (by decide) ?_
      refine lv_aload_n F.1 F.2.1 dX3_group_102 rfl (lv_at hl 0 rfl) ?_
      refine gv_get F hin3 hK hP 0 rfl rfl 0 (by decide) k188 rfl dX3_group_103 ?_
      refine lv_iload_n F.1 F.2.1 dX3_group_106 rfl (lv_at hl 1 rfl) ?_
      refine gc_VR (As := [.int (iI x1)]) F hK hA hP hS (cp_gh_N hP) (c_X1_nextQuestion l D cy aN N x1 _ h) (cwV 1 F.2.2.2.2 (gG_V k496 k440 k441 k62 k442) rfl rfl rfl hd_X1_nextQuestion ⟨Nat.le_of_ble_eq_true rfl, Nat.le_of_ble_eq_true rfl⟩) rfl rfl dX3_group_107 rfl rfl hl.1 (Nat.le_of_ble_eq_true rfl) ⟨Nat.le_of_ble_eq_true rfl, Nat.le_of_ble_eq_true rfl⟩ (fun u15 H locs h hP hS => ?_)
      exact ret u15 rf H locs 110 ls h rfl hP hD hS dX3_group_110
    have cd : x2 < 0 ∨ 5 < x2 := by omega
    have h := h.2.2.2.2.2.2 cd
    refine gv_tableOut (tgt := 111) F g3 cd dX3_group_15 (by decide) ?_
    refine lv_aload_n F.1 F.2.1 dX3_group_111 rfl (lv_at hl 0 rfl) ?_
    refine gv_bipush F ⟨by decide, by decide⟩ dX3_group_112 ?_
    refine gc_VI (As := [.int (iI (-2))]) (wn := fun u : AR => wGh cy aO aL aN aT aK aI o rw u lg sg N T K I) F hK hA hP hD hS hP hD (fun u H1 _ h1 h2 => ⟨h1, h2⟩) (c_X3_refuse l D cy aO aL aN aT aK aI o rw rf lg sg N T K I (-2) _ h) (cwV 1 F.2.2.2.2 (gG_V k220 k222 k2 k61 k223) rfl rfl rfl hd_X3_refuse ⟨Nat.le_of_ble_eq_true rfl, Nat.le_of_ble_eq_true rfl⟩) rfl rfl dX3_group_114 rfl rfl hl.1 (Nat.le_of_ble_eq_true rfl) ⟨Nat.le_of_ble_eq_true rfl, Nat.le_of_ble_eq_true rfl⟩ (fun u17 z16 H locs h hP hD hS => ?_)
    try dsimp only at h hP hD
    exact ret u17 z16 H locs 117 ls h rfl hP hD hS dX3_group_117
  · have h := h.2 c2
    refine lv_aload_n F.1 F.2.1 dX3_group_8 rfl (lv_at hl 0 rfl) ?_
    refine gv_iconst F dX3_group_9 ?_
    refine gc_VI (As := [.int (iI (-1))]) (wn := fun u : AR => wGh cy aO aL aN aT aK aI o rw u lg sg N T K I) F hK hA hP hD hS hP hD (fun u H1 _ h1 h2 => ⟨h1, h2⟩) (c_X3_refuse l D cy aO aL aN aT aK aI o rw rf lg sg N T K I (-1) _ h) (cwV 1 F.2.2.2.2 (gG_V k220 k222 k2 k61 k223) rfl rfl rfl hd_X3_refuse ⟨Nat.le_of_ble_eq_true rfl, Nat.le_of_ble_eq_true rfl⟩) rfl rfl dX3_group_10 rfl rfl hl.1 (Nat.le_of_ble_eq_true rfl) ⟨Nat.le_of_ble_eq_true rfl, Nat.le_of_ble_eq_true rfl⟩ (fun u19 z18 H locs h hP hD hS => ?_)
    try dsimp only at h hP hD
    exact ret u19 z18 H locs 13 ls h rfl hP hD hS dX3_group_13
abbrev rX3_sheet : Room := { frames := 1, cells := 0, slots := 0, locals := 22 }
set_option maxHeartbeats 4000000 in
set_option maxRecDepth 20000 in
theorem c_X3_sheet (l : Launch) (D : va_G) (cy : ClassId) (aO : Nat → Nat) (aL : Nat → Nat) (aN : Nat → Nat) (aT : Nat → Nat) (aK : Nat → Nat) (aI : Nat → Nat) (o : AR) (rw : AR) (rf : AR) (lg : AR) (sg : AR) (N : MS) (T : MS) (K : MS) (I : MS) (x1 x2 : Int) (Q : Int → AR → Prop) (h : wX3_sheet rf N x1 x2 Q) : MetI l yX3_sheet (wT yX3_sheet cX3_sheet 3 (some .int)) rX3_sheet D cy [.ref (aO 0), .int (iI x1), .int (iI x2)] (wGh cy aO aL aN aT aK aI o rw rf lg sg N T K I) (fun u : AR => wGh cy aO aL aN aT aK aI o rw u lg sg N T K I) (fun r u => Q r u) := by
  refine gI_I (by decide) (Nat.le_of_ble_eq_true rfl) ?_
  intro p e s m args below meth c A Qg F hK hA ret H locs ls hl hP hD hS
  have F : CallFix p m c cX3_sheet 3 s args gT RX3 := F
  have hl : lv_has ls 3 [(0, .ref (aO 0)), (1, .int (iI x1)), (2, .int (iI x2))] := hl
  refine lv_aload_n F.1 F.2.1 dX3_sheet_0 rfl (lv_at hl 0 rfl) ?_
  refine lv_iload_n F.1 F.2.1 dX3_sheet_1 rfl (lv_at hl 1 rfl) ?_
  refine gc_VR (As := [.int (iI x1)]) F hK hA hP hS hP (c_X3_noGroup l D cy aO aL aN aT aK aI o rw rf lg sg N T K I x1 _ h) (cwV 1 F.2.2.2.2 (gG_V k407 k409 k10 k61 k410) rfl rfl rfl hd_X3_noGroup ⟨Nat.le_of_ble_eq_true rfl, Nat.le_of_ble_eq_true rfl⟩) rfl rfl dX3_sheet_2 rfl rfl hl.1 (Nat.le_of_ble_eq_true rfl) ⟨Nat.le_of_ble_eq_true rfl, Nat.le_of_ble_eq_true rfl⟩ (fun u1 H locs h hP hS => ?_)
  obtain ⟨bu1, h⟩ := h
  refine gv_if_ne (tgt := 16) F (gRb bu1) dX3_sheet_5 (by decide) (fun c2 => ?_) (fun c2 => ?_)
  · have h := h.1 c2
    refine lv_aload_n F.1 F.2.1 dX3_sheet_16 rfl (lv_at hl 0 rfl) ?_
    refine gv_iconst F dX3_sheet_17 ?_
    refine gc_VI (As := [.int (iI (-1))]) (wn := fun u : AR => wGh cy aO aL aN aT aK aI o rw u lg sg N T K I) F hK hA hP hD hS hP hD (fun u H1 _ h1 h2 => ⟨h1, h2⟩) (c_X3_refuse l D cy aO aL aN aT aK aI o rw rf lg sg N T K I (-1) _ h) (cwV 1 F.2.2.2.2 (gG_V k220 k222 k2 k61 k223) rfl rfl rfl hd_X3_refuse ⟨Nat.le_of_ble_eq_true rfl, Nat.le_of_ble_eq_true rfl⟩) rfl rfl dX3_sheet_18 rfl rfl hl.1 (Nat.le_of_ble_eq_true rfl) ⟨Nat.le_of_ble_eq_true rfl, Nat.le_of_ble_eq_true rfl⟩ (fun u4 z3 H locs h hP hD hS => ?_)
    try dsimp only at h hP hD
    exact ret u4 z3 H locs 21 ls h rfl hP hD hS dX3_sheet_21
  · have h := h.2 c2
    refine lv_aload_n F.1 F.2.1 dX3_sheet_8 rfl (lv_at hl 0 rfl) ?_
    refine lv_iload_n F.1 F.2.1 dX3_sheet_9 rfl (lv_at hl 2 rfl) ?_
    refine gc_VR (As := [.int (iI x2)]) F hK hA hP hS hP (c_X3_noQuestion l D cy aO aL aN aT aK aI o rw rf lg sg N T K I x2 _ h) (cwV 1 F.2.2.2.2 (gG_V k419 k421 k12 k61 k422) rfl rfl rfl hd_X3_noQuestion ⟨Nat.le_of_ble_eq_true rfl, Nat.le_of_ble_eq_true rfl⟩) rfl rfl dX3_sheet_10 rfl rfl hl.1 (Nat.le_of_ble_eq_true rfl) ⟨Nat.le_of_ble_eq_true rfl, Nat.le_of_ble_eq_true rfl⟩ (fun u5 H locs h hP hS => ?_)
    obtain ⟨bu5, h⟩ := h
    refine gv_if_eq (tgt := 22) F (gRb bu5) dX3_sheet_13 (by decide) (fun c6 => ?_) (fun c6 => ?_)
    · have h := h.1 c6
      refine lv_aload_n F.1 F.2.1 dX3_sheet_22 rfl (lv_at hl 0 rfl) ?_
      refine gv_get F hin3 hK hP 0 rfl rfl 0 (by decide) k188 rfl dX3_sheet_23 ?_
      refine lv_iload_n F.1 F.2.1 dX3_sheet_26 rfl (lv_at hl 1 rfl) ?_
      refine lv_iload_n F.1 F.2.1 dX3_sheet_27 rfl (lv_at hl 2 rfl) ?_
      refine gc_VR (As := [.int (iI x1), .int (iI x2)]) F hK hA hP hS (cp_gh_N hP) (c_X1_answerOf l D cy aN N x1 x2 _ h) (cwV 2 F.2.2.2.2 (gG_V k501 k469 k470 k62 k471) rfl rfl rfl hd_X1_answerOf ⟨Nat.le_of_ble_eq_true rfl, Nat.le_of_ble_eq_true rfl⟩) rfl rfl dX3_sheet_28 rfl rfl hl.1 (Nat.le_of_ble_eq_true rfl) ⟨Nat.le_of_ble_eq_true rfl, Nat.le_of_ble_eq_true rfl⟩ (fun u7 H locs h hP hS => ?_)
      exact ret u7 rf H locs 31 ls h rfl hP hD hS dX3_sheet_31
    · have h := h.2 c6
      refine lv_aload_n F.1 F.2.1 dX3_sheet_16 rfl (lv_at hl 0 rfl) ?_
      refine gv_iconst F dX3_sheet_17 ?_
      refine gc_VI (As := [.int (iI (-1))]) (wn := fun u : AR => wGh cy aO aL aN aT aK aI o rw u lg sg N T K I) F hK hA hP hD hS hP hD (fun u H1 _ h1 h2 => ⟨h1, h2⟩) (c_X3_refuse l D cy aO aL aN aT aK aI o rw rf lg sg N T K I (-1) _ h) (cwV 1 F.2.2.2.2 (gG_V k220 k222 k2 k61 k223) rfl rfl rfl hd_X3_refuse ⟨Nat.le_of_ble_eq_true rfl, Nat.le_of_ble_eq_true rfl⟩) rfl rfl dX3_sheet_18 rfl rfl hl.1 (Nat.le_of_ble_eq_true rfl) ⟨Nat.le_of_ble_eq_true rfl, Nat.le_of_ble_eq_true rfl⟩ (fun u9 z8 H locs h hP hD hS => ?_)
      try dsimp only at h hP hD
      exact ret u9 z8 H locs 21 ls h rfl hP hD hS dX3_sheet_21
abbrev rX3_opens : Room := { frames := 4, cells := 0, slots := 0, locals := 89 }
set_option maxHeartbeats 4000000 in
set_option maxRecDepth 20000 in
theorem c_X3_opens (l : Launch) (D : va_G) (cy : ClassId) (aO : Nat → Nat) (aL : Nat → Nat) (aN : Nat → Nat) (aT : Nat → Nat) (aK : Nat → Nat) (aI : Nat → Nat) (o : AR) (rw : AR) (rf : AR) (lg : AR) (sg : AR) (N : MS) (T : MS) (K : MS) (I : MS) (x1 x2 : Int) (Q : Int → AR → MS → Prop) (h : wX3_opens rf N x1 x2 Q) : MetI l yX3_opens (wT yX3_opens cX3_opens 3 (some .int)) rX3_opens D cy [.ref (aO 0), .int (iI x1), .int (iI x2)] (wGh cy aO aL aN aT aK aI o rw rf lg sg N T K I) (fun u : AR × MS => wGh cy aO aL aN aT aK aI o rw u.1 lg sg u.2 T K I) (fun r u => Q r u.1 u.2) := by
  refine gI_I (by decide) (Nat.le_of_ble_eq_true rfl) ?_
  intro p e s m args below meth c A Qg F hK hA ret H locs ls hl hP hD hS
  have F : CallFix p m c cX3_opens 3 s args gT RX3 := F
  have hl : lv_has ls 3 [(0, .ref (aO 0)), (1, .int (iI x1)), (2, .int (iI x2))] := hl
  refine lv_iload_n F.1 F.2.1 dX3_opens_0 rfl (lv_at hl 1 rfl) ?_
  refine gc_SR (As := [.int (iI x1)]) F hK hA hP hS gPnil (c_X3_noRoom l D cy x1 _ h) (cwS 1 F.2.2.2.2 (gG_S k375 k376 k61 k377) rfl rfl rfl hd_X3_noRoom ⟨Nat.le_of_ble_eq_true rfl, Nat.le_of_ble_eq_true rfl⟩) dX3_opens_1 rfl rfl hl.1 (Nat.le_of_ble_eq_true rfl) ⟨Nat.le_of_ble_eq_true rfl, Nat.le_of_ble_eq_true rfl⟩ (fun u1 H locs h hP hS => ?_)
  obtain ⟨bu1, h⟩ := h
  refine gv_if_ne (tgt := 19) F (gRb bu1) dX3_opens_4 (by decide) (fun c2 => ?_) (fun c2 => ?_)
  · have h := h.1 c2
    refine lv_aload_n F.1 F.2.1 dX3_opens_19 rfl (lv_at hl 0 rfl) ?_
    refine gv_iconst F dX3_opens_20 ?_
    refine gc_VI (As := [.int (iI (-1))]) (wn := fun u : AR => wGh cy aO aL aN aT aK aI o rw u lg sg N T K I) F hK hA hP hD hS hP hD (fun u H1 _ h1 h2 => ⟨h1, h2⟩) (c_X3_refuse l D cy aO aL aN aT aK aI o rw rf lg sg N T K I (-1) _ h) (cwV 1 F.2.2.2.2 (gG_V k220 k222 k2 k61 k223) rfl rfl rfl hd_X3_refuse ⟨Nat.le_of_ble_eq_true rfl, Nat.le_of_ble_eq_true rfl⟩) rfl rfl dX3_opens_21 rfl rfl hl.1 (Nat.le_of_ble_eq_true rfl) ⟨Nat.le_of_ble_eq_true rfl, Nat.le_of_ble_eq_true rfl⟩ (fun u4 z3 H locs h hP hD hS => ?_)
    try dsimp only at h hP hD
    exact ret u4 (z3, N) H locs 24 ls h rfl hP hD hS dX3_opens_24
  · have h := h.2 c2
    refine lv_iload_n F.1 F.2.1 dX3_opens_7 rfl (lv_at hl 2 rfl) ?_
    refine gc_SR (As := [.int (iI x2)]) F hK hA hP hS gPnil (c_X3_noRoom l D cy x2 _ h) (cwS 1 F.2.2.2.2 (gG_S k375 k376 k61 k377) rfl rfl rfl hd_X3_noRoom ⟨Nat.le_of_ble_eq_true rfl, Nat.le_of_ble_eq_true rfl⟩) dX3_opens_8 rfl rfl hl.1 (Nat.le_of_ble_eq_true rfl) ⟨Nat.le_of_ble_eq_true rfl, Nat.le_of_ble_eq_true rfl⟩ (fun u5 H locs h hP hS => ?_)
    obtain ⟨bu5, h⟩ := h
    refine gv_if_ne (tgt := 19) F (gRb bu5) dX3_opens_11 (by decide) (fun c6 => ?_) (fun c6 => ?_)
    · have h := h.1 c6
      refine lv_aload_n F.1 F.2.1 dX3_opens_19 rfl (lv_at hl 0 rfl) ?_
      refine gv_iconst F dX3_opens_20 ?_
      refine gc_VI (As := [.int (iI (-1))]) (wn := fun u : AR => wGh cy aO aL aN aT aK aI o rw u lg sg N T K I) F hK hA hP hD hS hP hD (fun u H1 _ h1 h2 => ⟨h1, h2⟩) (c_X3_refuse l D cy aO aL aN aT aK aI o rw rf lg sg N T K I (-1) _ h) (cwV 1 F.2.2.2.2 (gG_V k220 k222 k2 k61 k223) rfl rfl rfl hd_X3_refuse ⟨Nat.le_of_ble_eq_true rfl, Nat.le_of_ble_eq_true rfl⟩) rfl rfl dX3_opens_21 rfl rfl hl.1 (Nat.le_of_ble_eq_true rfl) ⟨Nat.le_of_ble_eq_true rfl, Nat.le_of_ble_eq_true rfl⟩ (fun u8 z7 H locs h hP hD hS => ?_)
      try dsimp only at h hP hD
      exact ret u8 (z7, N) H locs 24 ls h rfl hP hD hS dX3_opens_24
    · have h := h.2 c6
      refine lv_iload_n F.1 F.2.1 dX3_opens_14 rfl (lv_at hl 1 rfl) ?_
      refine lv_iload_n F.1 F.2.1 dX3_opens_15 rfl (lv_at hl 2 rfl) ?_
      obtain ⟨g9, h⟩ := h
      obtain ⟨g10, h⟩ := h
      refine gv_icmp_ne (tgt := 25) F g9 g10 dX3_opens_16 (by decide) (fun c11 => ?_) (fun c11 => ?_)
      · have h := h.1 c11
        refine lv_aload_n F.1 F.2.1 dX3_opens_25 rfl (lv_at hl 0 rfl) ?_
        refine gv_get F hin3 hK hP 0 rfl rfl 0 (by decide) k188 rfl dX3_opens_26 ?_
        refine gv_get F hin1 hK (cp_gh_N hP) 0 rfl rfl 0 (by decide) k117 rfl dX3_opens_29 ?_
        refine lv_iload_n F.1 F.2.1 dX3_opens_32 rfl (lv_at hl 1 rfl) ?_
        refine lv_iload_n F.1 F.2.1 dX3_opens_33 rfl (lv_at hl 2 rfl) ?_
        refine gc_VV (As := [.int (iI x1), .int (iI x2)]) (wn := fun u : AR × AR => wGh cy aO aL aN aT aK aI o rw rf lg sg (uc (uc N 2 u.1) 3 u.2) T K I) F hK hA hP hD hS (cp_gh_Nr hP) (cd_gh_Nr hD) (fun u H1 hk h1 _ => cj_gh_Nr hP hD u.1 u.2 H1 hk h1) (c_X2_turn l D cy (fun k => aN (k + 1)) (N 2) (N 3) x1 x2 _ h) (cwV 2 F.2.2.2.2 (gG_V k378 k379 k380 k63 k381) rfl rfl rfl hd_X2_turn ⟨Nat.le_of_ble_eq_true rfl, Nat.le_of_ble_eq_true rfl⟩) rfl rfl dX3_opens_34 rfl rfl hl.1 (Nat.le_of_ble_eq_true rfl) ⟨Nat.le_of_ble_eq_true rfl, Nat.le_of_ble_eq_true rfl⟩ (fun u H locs h hP hD hS => ?_)
        obtain ⟨z12, z13⟩ := u
        try dsimp only at h hP hD
        obtain ⟨z14, ez14⟩ : ∃ z : MS, z = (uc (uc N 2 z12) 3 z13) := ⟨_, rfl⟩
        have h := h z14 ez14
        rw [← ez14] at hP hD
        refine lv_aload_n F.1 F.2.1 dX3_opens_37 rfl (lv_at hl 0 rfl) ?_
        refine gv_get F hin3 hK hP 0 rfl rfl 0 (by decide) k188 rfl dX3_opens_38 ?_
        refine gv_get F hin1 hK (cp_gh_N hP) 0 rfl rfl 0 (by decide) k117 rfl dX3_opens_41 ?_
        refine lv_iload_n F.1 F.2.1 dX3_opens_44 rfl (lv_at hl 1 rfl) ?_
        refine lv_iload_n F.1 F.2.1 dX3_opens_45 rfl (lv_at hl 2 rfl) ?_
        refine gc_VR (As := [.int (iI x1), .int (iI x2)]) F hK hA hP hS (cp_gh_Nr hP) (c_X2_isOpen l D cy (fun k => aN (k + 1)) (z14 2) (z14 3) x1 x2 _ h) (cwV 2 F.2.2.2.2 (gG_V k506 k383 k384 k63 k385) rfl rfl rfl hd_X2_isOpen ⟨Nat.le_of_ble_eq_true rfl, Nat.le_of_ble_eq_true rfl⟩) rfl rfl dX3_opens_46 rfl rfl hl.1 (Nat.le_of_ble_eq_true rfl) ⟨Nat.le_of_ble_eq_true rfl, Nat.le_of_ble_eq_true rfl⟩ (fun u15 H locs h hP hS => ?_)
        obtain ⟨bu15, h⟩ := h
        refine gv_if_eq (tgt := 56) F (gRb bu15) dX3_opens_49 (by decide) (fun c16 => ?_) (fun c16 => ?_)
        · have h := h.1 c16
          refine gv_iconst F dX3_opens_56 ?_
          exact ret 0 (rf, z14) H locs 57 ls h rfl hP hD hS dX3_opens_57
        · have h := h.2 c16
          refine gv_iconst F dX3_opens_52 ?_
          refine lv_goto (tgt := 57) F.1 F.2.1 dX3_opens_53 (by decide) ?_
          exact ret 1 (rf, z14) H locs 57 ls h rfl hP hD hS dX3_opens_57
      · have h := h.2 c11
        refine lv_aload_n F.1 F.2.1 dX3_opens_19 rfl (lv_at hl 0 rfl) ?_
        refine gv_iconst F dX3_opens_20 ?_
        refine gc_VI (As := [.int (iI (-1))]) (wn := fun u : AR => wGh cy aO aL aN aT aK aI o rw u lg sg N T K I) F hK hA hP hD hS hP hD (fun u H1 _ h1 h2 => ⟨h1, h2⟩) (c_X3_refuse l D cy aO aL aN aT aK aI o rw rf lg sg N T K I (-1) _ h) (cwV 1 F.2.2.2.2 (gG_V k220 k222 k2 k61 k223) rfl rfl rfl hd_X3_refuse ⟨Nat.le_of_ble_eq_true rfl, Nat.le_of_ble_eq_true rfl⟩) rfl rfl dX3_opens_21 rfl rfl hl.1 (Nat.le_of_ble_eq_true rfl) ⟨Nat.le_of_ble_eq_true rfl, Nat.le_of_ble_eq_true rfl⟩ (fun u18 z17 H locs h hP hD hS => ?_)
        try dsimp only at h hP hD
        exact ret u18 (z17, N) H locs 24 ls h rfl hP hD hS dX3_opens_24
abbrev rX3_put : Room := { frames := 1, cells := 0, slots := 0, locals := 22 }
set_option maxHeartbeats 4000000 in
set_option maxRecDepth 20000 in
theorem c_X3_put (l : Launch) (D : va_G) (cy : ClassId) (aO : Nat → Nat) (aL : Nat → Nat) (aN : Nat → Nat) (aT : Nat → Nat) (aK : Nat → Nat) (aI : Nat → Nat) (o : AR) (rw : AR) (rf : AR) (lg : AR) (sg : AR) (N : MS) (T : MS) (K : MS) (I : MS) (x1 x2 : Int) (Q : Int → AR → MS → Prop) (h : wX3_put rf N x1 x2 Q) : MetI l yX3_put (wT yX3_put cX3_put 4 (some .int)) rX3_put D cy [.ref (aO 0), .int (iI x1), .int (iI x2)] (wGh cy aO aL aN aT aK aI o rw rf lg sg N T K I) (fun u : AR × MS => wGh cy aO aL aN aT aK aI o rw u.1 lg sg u.2 T K I) (fun r u => Q r u.1 u.2) := by
  refine gI_I (by decide) (Nat.le_of_ble_eq_true rfl) ?_
  intro p e s m args below meth c A Qg F hK hA ret H locs ls hl hP hD hS
  have F : CallFix p m c cX3_put 4 s args gT RX3 := F
  have hl : lv_has ls 4 [(0, .ref (aO 0)), (1, .int (iI x1)), (2, .int (iI x2))] := hl
  refine lv_aload_n F.1 F.2.1 dX3_put_0 rfl (lv_at hl 0 rfl) ?_
  refine lv_iload_n F.1 F.2.1 dX3_put_1 rfl (lv_at hl 1 rfl) ?_
  refine gc_VR (As := [.int (iI x1)]) F hK hA hP hS hP (c_X3_noGroup l D cy aO aL aN aT aK aI o rw rf lg sg N T K I x1 _ h) (cwV 1 F.2.2.2.2 (gG_V k407 k409 k10 k61 k410) rfl rfl rfl hd_X3_noGroup ⟨Nat.le_of_ble_eq_true rfl, Nat.le_of_ble_eq_true rfl⟩) rfl rfl dX3_put_2 rfl rfl hl.1 (Nat.le_of_ble_eq_true rfl) ⟨Nat.le_of_ble_eq_true rfl, Nat.le_of_ble_eq_true rfl⟩ (fun u1 H locs h hP hS => ?_)
  obtain ⟨bu1, h⟩ := h
  refine gv_if_ne (tgt := 15) F (gRb bu1) dX3_put_5 (by decide) (fun c2 => ?_) (fun c2 => ?_)
  · have h := h.1 c2
    refine lv_aload_n F.1 F.2.1 dX3_put_15 rfl (lv_at hl 0 rfl) ?_
    refine gv_iconst F dX3_put_16 ?_
    refine gc_VI (As := [.int (iI (-1))]) (wn := fun u : AR => wGh cy aO aL aN aT aK aI o rw u lg sg N T K I) F hK hA hP hD hS hP hD (fun u H1 _ h1 h2 => ⟨h1, h2⟩) (c_X3_refuse l D cy aO aL aN aT aK aI o rw rf lg sg N T K I (-1) _ h) (cwV 1 F.2.2.2.2 (gG_V k220 k222 k2 k61 k223) rfl rfl rfl hd_X3_refuse ⟨Nat.le_of_ble_eq_true rfl, Nat.le_of_ble_eq_true rfl⟩) rfl rfl dX3_put_17 rfl rfl hl.1 (Nat.le_of_ble_eq_true rfl) ⟨Nat.le_of_ble_eq_true rfl, Nat.le_of_ble_eq_true rfl⟩ (fun u4 z3 H locs h hP hD hS => ?_)
    try dsimp only at h hP hD
    exact ret u4 (z3, N) H locs 20 ls h rfl hP hD hS dX3_put_20
  · have h := h.2 c2
    refine lv_iload_n F.1 F.2.1 dX3_put_8 rfl (lv_at hl 2 rfl) ?_
    refine gc_SR (As := [.int (iI x2)]) F hK hA hP hS gPnil (c_X3_noRoom l D cy x2 _ h) (cwS 1 F.2.2.2.2 (gG_S k375 k376 k61 k377) rfl rfl rfl hd_X3_noRoom ⟨Nat.le_of_ble_eq_true rfl, Nat.le_of_ble_eq_true rfl⟩) dX3_put_9 rfl rfl hl.1 (Nat.le_of_ble_eq_true rfl) ⟨Nat.le_of_ble_eq_true rfl, Nat.le_of_ble_eq_true rfl⟩ (fun u5 H locs h hP hS => ?_)
    obtain ⟨bu5, h⟩ := h
    refine gv_if_eq (tgt := 21) F (gRb bu5) dX3_put_12 (by decide) (fun c6 => ?_) (fun c6 => ?_)
    · have h := h.1 c6
      refine lv_aload_n F.1 F.2.1 dX3_put_21 rfl (lv_at hl 0 rfl) ?_
      refine gv_get F hin3 hK hP 0 rfl rfl 0 (by decide) k188 rfl dX3_put_22 ?_
      refine gv_get F hin1 hK (cp_gh_N hP) 0 rfl rfl 11 (by decide) k139 rfl dX3_put_25 ?_
      refine lv_iload_n F.1 F.2.1 dX3_put_28 rfl (lv_at hl 1 rfl) ?_
      obtain ⟨g7, h⟩ := h
      refine gv_iald (n := 5) (g := (N 11)) F hK (cp_gh_N hP) 11 rfl rfl (by decide) g7 dX3_put_29 ?_
      refine gv_name (fun v8 ev8 => ?_)
      have h := h v8 ev8
      refine lv_istore_n (lv' := [(3, .int (iI v8)), (0, .ref (aO 0)), (1, .int (iI x1)), (2, .int (iI x2))]) F.1 F.2.1 dX3_put_30 rfl hl (by decide) rfl (fun ls hl => ?_)
      refine lv_aload_n F.1 F.2.1 dX3_put_31 rfl (lv_at hl 1 rfl) ?_
      refine gv_get F hin3 hK hP 0 rfl rfl 0 (by decide) k188 rfl dX3_put_32 ?_
      refine lv_iload_n F.1 F.2.1 dX3_put_35 rfl (lv_at hl 2 rfl) ?_
      refine lv_iload_n F.1 F.2.1 dX3_put_36 rfl (lv_at hl 3 rfl) ?_
      refine gc_VV (As := [.int (iI x1), .int (iI x2)]) (wn := fun u : MS => wGh cy aO aL aN aT aK aI o rw rf lg sg u T K I) F hK hA hP hD hS (cp_gh_N hP) (cd_gh_N hD) (fun u H1 hk h1 _ => cj_gh_N hP hD u H1 hk h1) (c_X1_place l D cy aN N x1 x2 _ h) (cwV 2 F.2.2.2.2 (gG_V k411 k412 k413 k62 k414) rfl rfl rfl hd_X1_place ⟨Nat.le_of_ble_eq_true rfl, Nat.le_of_ble_eq_true rfl⟩) rfl rfl dX3_put_37 rfl rfl hl.1 (Nat.le_of_ble_eq_true rfl) ⟨Nat.le_of_ble_eq_true rfl, Nat.le_of_ble_eq_true rfl⟩ (fun z9 H locs h hP hD hS => ?_)
      try dsimp only at h hP hD
      refine lv_iload_n F.1 F.2.1 dX3_put_40 rfl (lv_at hl 0 rfl) ?_
      exact ret v8 (rf, z9) H locs 41 ls h rfl hP hD hS dX3_put_41
    · have h := h.2 c6
      refine lv_aload_n F.1 F.2.1 dX3_put_15 rfl (lv_at hl 0 rfl) ?_
      refine gv_iconst F dX3_put_16 ?_
      refine gc_VI (As := [.int (iI (-1))]) (wn := fun u : AR => wGh cy aO aL aN aT aK aI o rw u lg sg N T K I) F hK hA hP hD hS hP hD (fun u H1 _ h1 h2 => ⟨h1, h2⟩) (c_X3_refuse l D cy aO aL aN aT aK aI o rw rf lg sg N T K I (-1) _ h) (cwV 1 F.2.2.2.2 (gG_V k220 k222 k2 k61 k223) rfl rfl rfl hd_X3_refuse ⟨Nat.le_of_ble_eq_true rfl, Nat.le_of_ble_eq_true rfl⟩) rfl rfl dX3_put_17 rfl rfl hl.1 (Nat.le_of_ble_eq_true rfl) ⟨Nat.le_of_ble_eq_true rfl, Nat.le_of_ble_eq_true rfl⟩ (fun u11 z10 H locs h hP hD hS => ?_)
      try dsimp only at h hP hD
      exact ret u11 (z10, N) H locs 20 ls h rfl hP hD hS dX3_put_20
abbrev rX3_start : Room := { frames := 1, cells := 0, slots := 0, locals := 21 }
set_option maxHeartbeats 4000000 in
set_option maxRecDepth 20000 in
theorem c_X3_start (l : Launch) (D : va_G) (cy : ClassId) (aO : Nat → Nat) (aL : Nat → Nat) (aN : Nat → Nat) (aT : Nat → Nat) (aK : Nat → Nat) (aI : Nat → Nat) (o : AR) (rw : AR) (rf : AR) (lg : AR) (sg : AR) (N : MS) (T : MS) (K : MS) (I : MS) (x1 x2 : Int) (Q : Int → AR → MS → Prop) (h : wX3_start rf N x1 x2 Q) : MetI l yX3_start (wT yX3_start cX3_start 4 (some .int)) rX3_start D cy [.ref (aO 0), .int (iI x1), .int (iI x2)] (wGh cy aO aL aN aT aK aI o rw rf lg sg N T K I) (fun u : AR × MS => wGh cy aO aL aN aT aK aI o rw u.1 lg sg u.2 T K I) (fun r u => Q r u.1 u.2) := by
  refine gI_I (by decide) (Nat.le_of_ble_eq_true rfl) ?_
  intro p e s m args below meth c A Qg F hK hA ret H locs ls hl hP hD hS
  have F : CallFix p m c cX3_start 4 s args gT RX3 := F
  have hl : lv_has ls 4 [(0, .ref (aO 0)), (1, .int (iI x1)), (2, .int (iI x2))] := hl
  refine lv_aload_n F.1 F.2.1 dX3_start_0 rfl (lv_at hl 0 rfl) ?_
  refine lv_iload_n F.1 F.2.1 dX3_start_1 rfl (lv_at hl 1 rfl) ?_
  refine gc_VR (As := [.int (iI x1)]) F hK hA hP hS hP (c_X3_noGroup l D cy aO aL aN aT aK aI o rw rf lg sg N T K I x1 _ h) (cwV 1 F.2.2.2.2 (gG_V k407 k409 k10 k61 k410) rfl rfl rfl hd_X3_noGroup ⟨Nat.le_of_ble_eq_true rfl, Nat.le_of_ble_eq_true rfl⟩) rfl rfl dX3_start_2 rfl rfl hl.1 (Nat.le_of_ble_eq_true rfl) ⟨Nat.le_of_ble_eq_true rfl, Nat.le_of_ble_eq_true rfl⟩ (fun u1 H locs h hP hS => ?_)
  obtain ⟨bu1, h⟩ := h
  refine gv_if_eq (tgt := 14) F (gRb bu1) dX3_start_5 (by decide) (fun c2 => ?_) (fun c2 => ?_)
  · have h := h.1 c2
    refine lv_iload_n F.1 F.2.1 dX3_start_14 rfl (lv_at hl 2 rfl) ?_
    obtain ⟨g3, h⟩ := h
    refine gv_if_ge (tgt := 25) F g3 dX3_start_15 (by decide) (fun c4 => ?_) (fun c4 => ?_)
    · have h := h.1 c4
      refine lv_iload_n F.1 F.2.1 dX3_start_25 rfl (lv_at hl 2 rfl) ?_
      refine gv_bipush F ⟨by decide, by decide⟩ dX3_start_26 ?_
      refine gv_icmp_lt (tgt := 38) F g3 ⟨by decide, by decide⟩ dX3_start_28 (by decide) (fun c5 => ?_) (fun c5 => ?_)
      · have h := h.1 c5
        refine lv_aload_n F.1 F.2.1 dX3_start_38 rfl (lv_at hl 0 rfl) ?_
        refine gv_get F hin3 hK hP 0 rfl rfl 0 (by decide) k188 rfl dX3_start_39 ?_
        refine gv_get F hin1 hK (cp_gh_N hP) 0 rfl rfl 10 (by decide) k137 rfl dX3_start_42 ?_
        refine lv_iload_n F.1 F.2.1 dX3_start_45 rfl (lv_at hl 1 rfl) ?_
        obtain ⟨g6, h⟩ := h
        refine gv_iald (n := 5) (g := (N 10)) F hK (cp_gh_N hP) 10 rfl rfl (by decide) g6 dX3_start_46 ?_
        refine gv_name (fun v7 ev7 => ?_)
        have h := h v7 ev7
        refine lv_istore_n (lv' := [(3, .int (iI v7)), (0, .ref (aO 0)), (1, .int (iI x1)), (2, .int (iI x2))]) F.1 F.2.1 dX3_start_47 rfl hl (by decide) rfl (fun ls hl => ?_)
        refine lv_aload_n F.1 F.2.1 dX3_start_48 rfl (lv_at hl 1 rfl) ?_
        refine gv_get F hin3 hK hP 0 rfl rfl 0 (by decide) k188 rfl dX3_start_49 ?_
        refine gv_get F hin1 hK (cp_gh_N hP) 0 rfl rfl 10 (by decide) k137 rfl dX3_start_52 ?_
        refine lv_iload_n F.1 F.2.1 dX3_start_55 rfl (lv_at hl 2 rfl) ?_
        refine lv_iload_n F.1 F.2.1 dX3_start_56 rfl (lv_at hl 3 rfl) ?_
        obtain ⟨g8, h⟩ := h
        obtain ⟨z9, ez9⟩ : ∃ z : MS, z = st N 10 x1 x2 := ⟨_, rfl⟩
        have h := h z9 ez9
        refine gv_iast (n := 5) (g := (N 10)) (ws' := wGh cy aO aL aN aT aK aI o rw rf lg sg z9 T K I) F hK hP hD hS 15 rfl rfl (by decide) g8 (by subst ez9; exact wGh_stN 10 (by decide) 5 rfl _ _) dX3_start_57 (fun H locs hP hD hS => ?_)
        refine lv_iload_n F.1 F.2.1 dX3_start_58 rfl (lv_at hl 0 rfl) ?_
        exact ret v7 (rf, z9) H locs 59 ls h rfl hP hD hS dX3_start_59
      · have h := h.2 c5
        refine lv_aload_n F.1 F.2.1 dX3_start_31 rfl (lv_at hl 0 rfl) ?_
        refine gv_bipush F ⟨by decide, by decide⟩ dX3_start_32 ?_
        refine gc_VI (As := [.int (iI (-6))]) (wn := fun u : AR => wGh cy aO aL aN aT aK aI o rw u lg sg N T K I) F hK hA hP hD hS hP hD (fun u H1 _ h1 h2 => ⟨h1, h2⟩) (c_X3_refuse l D cy aO aL aN aT aK aI o rw rf lg sg N T K I (-6) _ h) (cwV 1 F.2.2.2.2 (gG_V k220 k222 k2 k61 k223) rfl rfl rfl hd_X3_refuse ⟨Nat.le_of_ble_eq_true rfl, Nat.le_of_ble_eq_true rfl⟩) rfl rfl dX3_start_34 rfl rfl hl.1 (Nat.le_of_ble_eq_true rfl) ⟨Nat.le_of_ble_eq_true rfl, Nat.le_of_ble_eq_true rfl⟩ (fun u11 z10 H locs h hP hD hS => ?_)
        try dsimp only at h hP hD
        exact ret u11 (z10, N) H locs 37 ls h rfl hP hD hS dX3_start_37
    · have h := h.2 c4
      refine lv_aload_n F.1 F.2.1 dX3_start_18 rfl (lv_at hl 0 rfl) ?_
      refine gv_bipush F ⟨by decide, by decide⟩ dX3_start_19 ?_
      refine gc_VI (As := [.int (iI (-4))]) (wn := fun u : AR => wGh cy aO aL aN aT aK aI o rw u lg sg N T K I) F hK hA hP hD hS hP hD (fun u H1 _ h1 h2 => ⟨h1, h2⟩) (c_X3_refuse l D cy aO aL aN aT aK aI o rw rf lg sg N T K I (-4) _ h) (cwV 1 F.2.2.2.2 (gG_V k220 k222 k2 k61 k223) rfl rfl rfl hd_X3_refuse ⟨Nat.le_of_ble_eq_true rfl, Nat.le_of_ble_eq_true rfl⟩) rfl rfl dX3_start_21 rfl rfl hl.1 (Nat.le_of_ble_eq_true rfl) ⟨Nat.le_of_ble_eq_true rfl, Nat.le_of_ble_eq_true rfl⟩ (fun u13 z12 H locs h hP hD hS => ?_)
      try dsimp only at h hP hD
      exact ret u13 (z12, N) H locs 24 ls h rfl hP hD hS dX3_start_24
  · have h := h.2 c2
    refine lv_aload_n F.1 F.2.1 dX3_start_8 rfl (lv_at hl 0 rfl) ?_
    refine gv_iconst F dX3_start_9 ?_
    refine gc_VI (As := [.int (iI (-1))]) (wn := fun u : AR => wGh cy aO aL aN aT aK aI o rw u lg sg N T K I) F hK hA hP hD hS hP hD (fun u H1 _ h1 h2 => ⟨h1, h2⟩) (c_X3_refuse l D cy aO aL aN aT aK aI o rw rf lg sg N T K I (-1) _ h) (cwV 1 F.2.2.2.2 (gG_V k220 k222 k2 k61 k223) rfl rfl rfl hd_X3_refuse ⟨Nat.le_of_ble_eq_true rfl, Nat.le_of_ble_eq_true rfl⟩) rfl rfl dX3_start_10 rfl rfl hl.1 (Nat.le_of_ble_eq_true rfl) ⟨Nat.le_of_ble_eq_true rfl, Nat.le_of_ble_eq_true rfl⟩ (fun u15 z14 H locs h hP hD hS => ?_)
    try dsimp only at h hP hD
    exact ret u15 (z14, N) H locs 13 ls h rfl hP hD hS dX3_start_13
abbrev rX3_write : Room := { frames := 1, cells := 0, slots := 0, locals := 23 }
set_option maxHeartbeats 4000000 in
set_option maxRecDepth 20000 in
theorem c_X3_write (l : Launch) (D : va_G) (cy : ClassId) (aO : Nat → Nat) (aL : Nat → Nat) (aN : Nat → Nat) (aT : Nat → Nat) (aK : Nat → Nat) (aI : Nat → Nat) (o : AR) (rw : AR) (rf : AR) (lg : AR) (sg : AR) (N : MS) (T : MS) (K : MS) (I : MS) (x1 x2 x3 : Int) (Q : Int → AR → MS → Prop) (h : wX3_write rf N x1 x2 x3 Q) : MetI l yX3_write (wT yX3_write cX3_write 5 (some .int)) rX3_write D cy [.ref (aO 0), .int (iI x1), .int (iI x2), .int (iI x3)] (wGh cy aO aL aN aT aK aI o rw rf lg sg N T K I) (fun u : AR × MS => wGh cy aO aL aN aT aK aI o rw u.1 lg sg u.2 T K I) (fun r u => Q r u.1 u.2) := by
  refine gI_I (by decide) (Nat.le_of_ble_eq_true rfl) ?_
  intro p e s m args below meth c A Qg F hK hA ret H locs ls hl hP hD hS
  have F : CallFix p m c cX3_write 5 s args gT RX3 := F
  have hl : lv_has ls 5 [(0, .ref (aO 0)), (1, .int (iI x1)), (2, .int (iI x2)), (3, .int (iI x3))] := hl
  refine lv_aload_n F.1 F.2.1 dX3_write_0 rfl (lv_at hl 0 rfl) ?_
  refine lv_iload_n F.1 F.2.1 dX3_write_1 rfl (lv_at hl 1 rfl) ?_
  refine gc_VR (As := [.int (iI x1)]) F hK hA hP hS hP (c_X3_noGroup l D cy aO aL aN aT aK aI o rw rf lg sg N T K I x1 _ h) (cwV 1 F.2.2.2.2 (gG_V k407 k409 k10 k61 k410) rfl rfl rfl hd_X3_noGroup ⟨Nat.le_of_ble_eq_true rfl, Nat.le_of_ble_eq_true rfl⟩) rfl rfl dX3_write_2 rfl rfl hl.1 (Nat.le_of_ble_eq_true rfl) ⟨Nat.le_of_ble_eq_true rfl, Nat.le_of_ble_eq_true rfl⟩ (fun u1 H locs h hP hS => ?_)
  obtain ⟨bu1, h⟩ := h
  refine gv_if_ne (tgt := 16) F (gRb bu1) dX3_write_5 (by decide) (fun c2 => ?_) (fun c2 => ?_)
  · have h := h.1 c2
    refine lv_aload_n F.1 F.2.1 dX3_write_16 rfl (lv_at hl 0 rfl) ?_
    refine gv_iconst F dX3_write_17 ?_
    refine gc_VI (As := [.int (iI (-1))]) (wn := fun u : AR => wGh cy aO aL aN aT aK aI o rw u lg sg N T K I) F hK hA hP hD hS hP hD (fun u H1 _ h1 h2 => ⟨h1, h2⟩) (c_X3_refuse l D cy aO aL aN aT aK aI o rw rf lg sg N T K I (-1) _ h) (cwV 1 F.2.2.2.2 (gG_V k220 k222 k2 k61 k223) rfl rfl rfl hd_X3_refuse ⟨Nat.le_of_ble_eq_true rfl, Nat.le_of_ble_eq_true rfl⟩) rfl rfl dX3_write_18 rfl rfl hl.1 (Nat.le_of_ble_eq_true rfl) ⟨Nat.le_of_ble_eq_true rfl, Nat.le_of_ble_eq_true rfl⟩ (fun u4 z3 H locs h hP hD hS => ?_)
    try dsimp only at h hP hD
    exact ret u4 (z3, N) H locs 21 ls h rfl hP hD hS dX3_write_21
  · have h := h.2 c2
    refine lv_aload_n F.1 F.2.1 dX3_write_8 rfl (lv_at hl 0 rfl) ?_
    refine lv_iload_n F.1 F.2.1 dX3_write_9 rfl (lv_at hl 2 rfl) ?_
    refine gc_VR (As := [.int (iI x2)]) F hK hA hP hS hP (c_X3_noQuestion l D cy aO aL aN aT aK aI o rw rf lg sg N T K I x2 _ h) (cwV 1 F.2.2.2.2 (gG_V k419 k421 k12 k61 k422) rfl rfl rfl hd_X3_noQuestion ⟨Nat.le_of_ble_eq_true rfl, Nat.le_of_ble_eq_true rfl⟩) rfl rfl dX3_write_10 rfl rfl hl.1 (Nat.le_of_ble_eq_true rfl) ⟨Nat.le_of_ble_eq_true rfl, Nat.le_of_ble_eq_true rfl⟩ (fun u5 H locs h hP hS => ?_)
    obtain ⟨bu5, h⟩ := h
    refine gv_if_eq (tgt := 22) F (gRb bu5) dX3_write_13 (by decide) (fun c6 => ?_) (fun c6 => ?_)
    · have h := h.1 c6
      refine lv_iload_n F.1 F.2.1 dX3_write_22 rfl (lv_at hl 3 rfl) ?_
      obtain ⟨g7, h⟩ := h
      refine gv_if_ge (tgt := 33) F g7 dX3_write_23 (by decide) (fun c8 => ?_) (fun c8 => ?_)
      · have h := h.1 c8
        refine lv_iload_n F.1 F.2.1 dX3_write_33 rfl (lv_at hl 3 rfl) ?_
        refine gv_bipush F ⟨by decide, by decide⟩ dX3_write_34 ?_
        refine gv_icmp_le (tgt := 46) F g7 ⟨by decide, by decide⟩ dX3_write_36 (by decide) (fun c9 => ?_) (fun c9 => ?_)
        · have h := h.1 c9
          refine lv_aload_n F.1 F.2.1 dX3_write_46 rfl (lv_at hl 0 rfl) ?_
          refine gv_get F hin3 hK hP 0 rfl rfl 0 (by decide) k188 rfl dX3_write_47 ?_
          refine lv_iload_n F.1 F.2.1 dX3_write_50 rfl (lv_at hl 1 rfl) ?_
          refine lv_iload_n F.1 F.2.1 dX3_write_51 rfl (lv_at hl 2 rfl) ?_
          refine gc_VR (As := [.int (iI x1), .int (iI x2)]) F hK hA hP hS (cp_gh_N hP) (c_X1_answerOf l D cy aN N x1 x2 _ h) (cwV 2 F.2.2.2.2 (gG_V k501 k469 k470 k62 k471) rfl rfl rfl hd_X1_answerOf ⟨Nat.le_of_ble_eq_true rfl, Nat.le_of_ble_eq_true rfl⟩) rfl rfl dX3_write_52 rfl rfl hl.1 (Nat.le_of_ble_eq_true rfl) ⟨Nat.le_of_ble_eq_true rfl, Nat.le_of_ble_eq_true rfl⟩ (fun u10 H locs h hP hS => ?_)
          refine lv_istore (lv' := [(4, .int (iI u10)), (0, .ref (aO 0)), (1, .int (iI x1)), (2, .int (iI x2)), (3, .int (iI x3))]) F.1 F.2.1 dX3_write_55 hl (by decide) rfl (fun ls hl => ?_)
          refine lv_aload_n F.1 F.2.1 dX3_write_57 rfl (lv_at hl 1 rfl) ?_
          refine gv_get F hin3 hK hP 0 rfl rfl 0 (by decide) k188 rfl dX3_write_58 ?_
          refine lv_iload_n F.1 F.2.1 dX3_write_61 rfl (lv_at hl 2 rfl) ?_
          refine lv_iload_n F.1 F.2.1 dX3_write_62 rfl (lv_at hl 3 rfl) ?_
          refine lv_iload_n F.1 F.2.1 dX3_write_63 rfl (lv_at hl 4 rfl) ?_
          refine gv_bipush F ⟨by decide, by decide⟩ dX3_write_64 ?_
          refine gv_icmp_ne (tgt := 74) F g7 ⟨by decide, by decide⟩ dX3_write_66 (by decide) (fun c11 => ?_) (fun c11 => ?_)
          · have h := h.1 c11
            refine lv_iload_n F.1 F.2.1 dX3_write_74 rfl (lv_at hl 4 rfl) ?_
            refine gc_VV (As := [.int (iI x1), .int (iI x2), .int (iI x3)]) (wn := fun u : MS => wGh cy aO aL aN aT aK aI o rw rf lg sg u T K I) F hK hA hP hD hS (cp_gh_N hP) (cd_gh_N hD) (fun u H1 hk h1 _ => cj_gh_N hP hD u H1 hk h1) (c_X1_fill l D cy aN N x1 x2 x3 _ h) (cwV 3 F.2.2.2.2 (gG_V k423 k424 k425 k62 k426) rfl rfl rfl hd_X1_fill ⟨Nat.le_of_ble_eq_true rfl, Nat.le_of_ble_eq_true rfl⟩) rfl rfl dX3_write_75 rfl rfl hl.1 (Nat.le_of_ble_eq_true rfl) ⟨Nat.le_of_ble_eq_true rfl, Nat.le_of_ble_eq_true rfl⟩ (fun z12 H locs h hP hD hS => ?_)
            try dsimp only at h hP hD
            refine lv_iload F.1 F.2.1 dX3_write_78 (lv_at hl 0 rfl) ?_
            exact ret u10 (rf, z12) H locs 80 ls h rfl hP hD hS dX3_write_80
          · have h := h.2 c11
            refine gv_bipush F ⟨by decide, by decide⟩ dX3_write_69 ?_
            refine lv_goto (tgt := 75) F.1 F.2.1 dX3_write_71 (by decide) ?_
            refine gc_VV (As := [.int (iI x1), .int (iI x2), .int (iI (-9))]) (wn := fun u : MS => wGh cy aO aL aN aT aK aI o rw rf lg sg u T K I) F hK hA hP hD hS (cp_gh_N hP) (cd_gh_N hD) (fun u H1 hk h1 _ => cj_gh_N hP hD u H1 hk h1) (c_X1_fill l D cy aN N x1 x2 (-9) _ h) (cwV 3 F.2.2.2.2 (gG_V k423 k424 k425 k62 k426) rfl rfl rfl hd_X1_fill ⟨Nat.le_of_ble_eq_true rfl, Nat.le_of_ble_eq_true rfl⟩) rfl rfl dX3_write_75 rfl rfl hl.1 (Nat.le_of_ble_eq_true rfl) ⟨Nat.le_of_ble_eq_true rfl, Nat.le_of_ble_eq_true rfl⟩ (fun z13 H locs h hP hD hS => ?_)
            try dsimp only at h hP hD
            refine lv_iload F.1 F.2.1 dX3_write_78 (lv_at hl 0 rfl) ?_
            exact ret u10 (rf, z13) H locs 80 ls h rfl hP hD hS dX3_write_80
        · have h := h.2 c9
          refine lv_aload_n F.1 F.2.1 dX3_write_39 rfl (lv_at hl 0 rfl) ?_
          refine gv_bipush F ⟨by decide, by decide⟩ dX3_write_40 ?_
          refine gc_VI (As := [.int (iI (-6))]) (wn := fun u : AR => wGh cy aO aL aN aT aK aI o rw u lg sg N T K I) F hK hA hP hD hS hP hD (fun u H1 _ h1 h2 => ⟨h1, h2⟩) (c_X3_refuse l D cy aO aL aN aT aK aI o rw rf lg sg N T K I (-6) _ h) (cwV 1 F.2.2.2.2 (gG_V k220 k222 k2 k61 k223) rfl rfl rfl hd_X3_refuse ⟨Nat.le_of_ble_eq_true rfl, Nat.le_of_ble_eq_true rfl⟩) rfl rfl dX3_write_42 rfl rfl hl.1 (Nat.le_of_ble_eq_true rfl) ⟨Nat.le_of_ble_eq_true rfl, Nat.le_of_ble_eq_true rfl⟩ (fun u15 z14 H locs h hP hD hS => ?_)
          try dsimp only at h hP hD
          exact ret u15 (z14, N) H locs 45 ls h rfl hP hD hS dX3_write_45
      · have h := h.2 c8
        refine lv_aload_n F.1 F.2.1 dX3_write_26 rfl (lv_at hl 0 rfl) ?_
        refine gv_bipush F ⟨by decide, by decide⟩ dX3_write_27 ?_
        refine gc_VI (As := [.int (iI (-4))]) (wn := fun u : AR => wGh cy aO aL aN aT aK aI o rw u lg sg N T K I) F hK hA hP hD hS hP hD (fun u H1 _ h1 h2 => ⟨h1, h2⟩) (c_X3_refuse l D cy aO aL aN aT aK aI o rw rf lg sg N T K I (-4) _ h) (cwV 1 F.2.2.2.2 (gG_V k220 k222 k2 k61 k223) rfl rfl rfl hd_X3_refuse ⟨Nat.le_of_ble_eq_true rfl, Nat.le_of_ble_eq_true rfl⟩) rfl rfl dX3_write_29 rfl rfl hl.1 (Nat.le_of_ble_eq_true rfl) ⟨Nat.le_of_ble_eq_true rfl, Nat.le_of_ble_eq_true rfl⟩ (fun u17 z16 H locs h hP hD hS => ?_)
        try dsimp only at h hP hD
        exact ret u17 (z16, N) H locs 32 ls h rfl hP hD hS dX3_write_32
    · have h := h.2 c6
      refine lv_aload_n F.1 F.2.1 dX3_write_16 rfl (lv_at hl 0 rfl) ?_
      refine gv_iconst F dX3_write_17 ?_
      refine gc_VI (As := [.int (iI (-1))]) (wn := fun u : AR => wGh cy aO aL aN aT aK aI o rw u lg sg N T K I) F hK hA hP hD hS hP hD (fun u H1 _ h1 h2 => ⟨h1, h2⟩) (c_X3_refuse l D cy aO aL aN aT aK aI o rw rf lg sg N T K I (-1) _ h) (cwV 1 F.2.2.2.2 (gG_V k220 k222 k2 k61 k223) rfl rfl rfl hd_X3_refuse ⟨Nat.le_of_ble_eq_true rfl, Nat.le_of_ble_eq_true rfl⟩) rfl rfl dX3_write_18 rfl rfl hl.1 (Nat.le_of_ble_eq_true rfl) ⟨Nat.le_of_ble_eq_true rfl, Nat.le_of_ble_eq_true rfl⟩ (fun u19 z18 H locs h hP hD hS => ?_)
      try dsimp only at h hP hD
      exact ret u19 (z18, N) H locs 21 ls h rfl hP hD hS dX3_write_21
abbrev rX3_minutes : Room := { frames := 4, cells := 0, slots := 0, locals := 91 }
set_option maxHeartbeats 4000000 in
set_option maxRecDepth 20000 in
theorem c_X3_minutes (l : Launch) (D : va_G) (cy : ClassId) (aO : Nat → Nat) (aL : Nat → Nat) (aN : Nat → Nat) (aT : Nat → Nat) (aK : Nat → Nat) (aI : Nat → Nat) (o : AR) (rw : AR) (rf : AR) (lg : AR) (sg : AR) (N : MS) (T : MS) (K : MS) (I : MS) (x1 : Int) (Q : Int → AR → MS → Prop) (h : wX3_minutes rf N x1 Q) : MetI l yX3_minutes (wT yX3_minutes cX3_minutes 2 (some .int)) rX3_minutes D cy [.ref (aO 0), .int (iI x1)] (wGh cy aO aL aN aT aK aI o rw rf lg sg N T K I) (fun u : AR × MS => wGh cy aO aL aN aT aK aI o rw u.1 lg sg u.2 T K I) (fun r u => Q r u.1 u.2) := by
  refine gI_I (by decide) (Nat.le_of_ble_eq_true rfl) ?_
  intro p e s m args below meth c A Qg F hK hA ret H locs ls hl hP hD hS
  have F : CallFix p m c cX3_minutes 2 s args gT RX3 := F
  have hl : lv_has ls 2 [(0, .ref (aO 0)), (1, .int (iI x1))] := hl
  refine lv_iload_n F.1 F.2.1 dX3_minutes_0 rfl (lv_at hl 1 rfl) ?_
  refine gv_iconst F dX3_minutes_1 ?_
  obtain ⟨g1, h⟩ := h
  refine gv_icmp_ge (tgt := 12) F g1 ⟨by decide, by decide⟩ dX3_minutes_2 (by decide) (fun c2 => ?_) (fun c2 => ?_)
  · have h := h.1 c2
    refine lv_iload_n F.1 F.2.1 dX3_minutes_12 rfl (lv_at hl 1 rfl) ?_
    refine gv_bipush F ⟨by decide, by decide⟩ dX3_minutes_13 ?_
    refine gv_icmp_gt (tgt := 33) F g1 ⟨by decide, by decide⟩ dX3_minutes_15 (by decide) (fun c3 => ?_) (fun c3 => ?_)
    · have h := h.1 c3
      refine lv_aload_n F.1 F.2.1 dX3_minutes_33 rfl (lv_at hl 0 rfl) ?_
      refine gv_bipush F ⟨by decide, by decide⟩ dX3_minutes_34 ?_
      refine gc_VI (As := [.int (iI (-6))]) (wn := fun u : AR => wGh cy aO aL aN aT aK aI o rw u lg sg N T K I) F hK hA hP hD hS hP hD (fun u H1 _ h1 h2 => ⟨h1, h2⟩) (c_X3_refuse l D cy aO aL aN aT aK aI o rw rf lg sg N T K I (-6) _ h) (cwV 1 F.2.2.2.2 (gG_V k220 k222 k2 k61 k223) rfl rfl rfl hd_X3_refuse ⟨Nat.le_of_ble_eq_true rfl, Nat.le_of_ble_eq_true rfl⟩) rfl rfl dX3_minutes_36 rfl rfl hl.1 (Nat.le_of_ble_eq_true rfl) ⟨Nat.le_of_ble_eq_true rfl, Nat.le_of_ble_eq_true rfl⟩ (fun u5 z4 H locs h hP hD hS => ?_)
      try dsimp only at h hP hD
      exact ret u5 (z4, N) H locs 39 ls h rfl hP hD hS dX3_minutes_39
    · have h := h.2 c3
      refine lv_aload_n F.1 F.2.1 dX3_minutes_18 rfl (lv_at hl 0 rfl) ?_
      refine gv_get F hin3 hK hP 0 rfl rfl 0 (by decide) k188 rfl dX3_minutes_19 ?_
      refine gv_get F hin1 hK (cp_gh_N hP) 0 rfl rfl 1 (by decide) k119 rfl dX3_minutes_22 ?_
      refine lv_iload_n F.1 F.2.1 dX3_minutes_25 rfl (lv_at hl 1 rfl) ?_
      refine gv_iadd F dX3_minutes_26 ?_
      refine gv_sipush F ⟨by decide, by decide⟩ dX3_minutes_27 ?_
      obtain ⟨g6, h⟩ := h
      refine gv_icmp_le (tgt := 40) F g6 ⟨by decide, by decide⟩ dX3_minutes_30 (by decide) (fun c7 => ?_) (fun c7 => ?_)
      · have h := h.1 c7
        refine lv_aload_n F.1 F.2.1 dX3_minutes_40 rfl (lv_at hl 0 rfl) ?_
        refine gv_get F hin3 hK hP 0 rfl rfl 0 (by decide) k188 rfl dX3_minutes_41 ?_
        refine lv_iload_n F.1 F.2.1 dX3_minutes_44 rfl (lv_at hl 1 rfl) ?_
        refine gc_VV (As := [.int (iI x1)]) (wn := fun u : MS => wGh cy aO aL aN aT aK aI o rw rf lg sg u T K I) F hK hA hP hD hS (cp_gh_N hP) (cd_gh_N hD) (fun u H1 hk h1 _ => cj_gh_N hP hD u H1 hk h1) (c_X1_passMinutes l D cy aN N x1 _ h) (cwV 1 F.2.2.2.2 (gG_V k431 k432 k433 k62 k434) rfl rfl rfl hd_X1_passMinutes ⟨Nat.le_of_ble_eq_true rfl, Nat.le_of_ble_eq_true rfl⟩) rfl rfl dX3_minutes_45 rfl rfl hl.1 (Nat.le_of_ble_eq_true rfl) ⟨Nat.le_of_ble_eq_true rfl, Nat.le_of_ble_eq_true rfl⟩ (fun z8 H locs h hP hD hS => ?_)
        try dsimp only at h hP hD
        refine lv_aload_n F.1 F.2.1 dX3_minutes_48 rfl (lv_at hl 0 rfl) ?_
        refine gv_get F hin3 hK hP 0 rfl rfl 0 (by decide) k188 rfl dX3_minutes_49 ?_
        refine gc_VR (As := []) F hK hA hP hS (cp_gh_N hP) (c_X1_rightOfAll l D cy aN z8 _ h) (cwV 0 F.2.2.2.2 (gG_V k523 k524 k525 k62 k526) rfl rfl rfl hd_X1_rightOfAll ⟨Nat.le_of_ble_eq_true rfl, Nat.le_of_ble_eq_true rfl⟩) rfl rfl dX3_minutes_52 rfl rfl hl.1 (Nat.le_of_ble_eq_true rfl) ⟨Nat.le_of_ble_eq_true rfl, Nat.le_of_ble_eq_true rfl⟩ (fun u9 H locs h hP hS => ?_)
        exact ret u9 (rf, z8) H locs 55 ls h rfl hP hD hS dX3_minutes_55
      · have h := h.2 c7
        refine lv_aload_n F.1 F.2.1 dX3_minutes_33 rfl (lv_at hl 0 rfl) ?_
        refine gv_bipush F ⟨by decide, by decide⟩ dX3_minutes_34 ?_
        refine gc_VI (As := [.int (iI (-6))]) (wn := fun u : AR => wGh cy aO aL aN aT aK aI o rw u lg sg N T K I) F hK hA hP hD hS hP hD (fun u H1 _ h1 h2 => ⟨h1, h2⟩) (c_X3_refuse l D cy aO aL aN aT aK aI o rw rf lg sg N T K I (-6) _ h) (cwV 1 F.2.2.2.2 (gG_V k220 k222 k2 k61 k223) rfl rfl rfl hd_X3_refuse ⟨Nat.le_of_ble_eq_true rfl, Nat.le_of_ble_eq_true rfl⟩) rfl rfl dX3_minutes_36 rfl rfl hl.1 (Nat.le_of_ble_eq_true rfl) ⟨Nat.le_of_ble_eq_true rfl, Nat.le_of_ble_eq_true rfl⟩ (fun u11 z10 H locs h hP hD hS => ?_)
        try dsimp only at h hP hD
        exact ret u11 (z10, N) H locs 39 ls h rfl hP hD hS dX3_minutes_39
  · have h := h.2 c2
    refine lv_aload_n F.1 F.2.1 dX3_minutes_5 rfl (lv_at hl 0 rfl) ?_
    refine gv_bipush F ⟨by decide, by decide⟩ dX3_minutes_6 ?_
    refine gc_VI (As := [.int (iI (-4))]) (wn := fun u : AR => wGh cy aO aL aN aT aK aI o rw u lg sg N T K I) F hK hA hP hD hS hP hD (fun u H1 _ h1 h2 => ⟨h1, h2⟩) (c_X3_refuse l D cy aO aL aN aT aK aI o rw rf lg sg N T K I (-4) _ h) (cwV 1 F.2.2.2.2 (gG_V k220 k222 k2 k61 k223) rfl rfl rfl hd_X3_refuse ⟨Nat.le_of_ble_eq_true rfl, Nat.le_of_ble_eq_true rfl⟩) rfl rfl dX3_minutes_8 rfl rfl hl.1 (Nat.le_of_ble_eq_true rfl) ⟨Nat.le_of_ble_eq_true rfl, Nat.le_of_ble_eq_true rfl⟩ (fun u13 z12 H locs h hP hD hS => ?_)
    try dsimp only at h hP hD
    exact ret u13 (z12, N) H locs 11 ls h rfl hP hD hS dX3_minutes_11
abbrev rX3_think : Room := { frames := 3, cells := 0, slots := 0, locals := 66 }
set_option maxHeartbeats 4000000 in
set_option maxRecDepth 20000 in
theorem c_X3_think (l : Launch) (D : va_G) (cy : ClassId) (aO : Nat → Nat) (aL : Nat → Nat) (aN : Nat → Nat) (aT : Nat → Nat) (aK : Nat → Nat) (aI : Nat → Nat) (o : AR) (rw : AR) (rf : AR) (lg : AR) (sg : AR) (N : MS) (T : MS) (K : MS) (I : MS) (Q : MS → Prop) (h : wX3_think N T Q) : MetV l yX3_think (wT yX3_think cX3_think 1 none) rX3_think D cy [.ref (aO 0)] (wGh cy aO aL aN aT aK aI o rw rf lg sg N T K I) (fun u : MS => wGh cy aO aL aN aT aK aI o rw rf lg sg N u K I) (fun u => Q u) := by
  refine gI_V (by decide) (Nat.le_of_ble_eq_true rfl) ?_
  intro p e s m args below meth c A Qg F hK hA ret H locs ls hl hP hD hS
  have F : CallFix p m c cX3_think 1 s args gT RX3 := F
  have hl : lv_has ls 1 [(0, .ref (aO 0))] := hl
  refine lv_aload_n F.1 F.2.1 dX3_think_0 rfl (lv_at hl 0 rfl) ?_
  refine gv_get F hin3 hK hP 0 rfl rfl 1 (by decide) k189 rfl dX3_think_1 ?_
  refine lv_aload_n F.1 F.2.1 dX3_think_4 rfl (lv_at hl 0 rfl) ?_
  refine gv_get F hin3 hK hP 0 rfl rfl 0 (by decide) k188 rfl dX3_think_5 ?_
  refine gc_VV (As := [.ref (aN 0)]) (wn := fun u : MS => wGh cy aO aL aN aT aK aI o rw rf lg sg N u K I) F hK hA hP hD hS (cp_gh_TN hP) (cd_gh_TN hD) (fun u H1 hk h1 _ => cj_gh_TN hP hD u H1 hk h1) (c_MuBecome l D cy aT aN T N _ h) (cwV 1 F.2.2.2.2 (gG_V k346 k347 k348 k62 k349) rfl rfl rfl hd_X1_become ⟨Nat.le_of_ble_eq_true rfl, Nat.le_of_ble_eq_true rfl⟩) rfl rfl dX3_think_8 rfl rfl hl.1 (Nat.le_of_ble_eq_true rfl) ⟨Nat.le_of_ble_eq_true rfl, Nat.le_of_ble_eq_true rfl⟩ (fun z1 H locs h hP hD hS => ?_)
  try dsimp only at h hP hD
  refine lv_aload_n F.1 F.2.1 dX3_think_11 rfl (lv_at hl 0 rfl) ?_
  refine gv_get F hin3 hK hP 0 rfl rfl 1 (by decide) k189 rfl dX3_think_12 ?_
  refine gc_VV (As := []) (wn := fun u : MS => wGh cy aO aL aN aT aK aI o rw rf lg sg N u K I) F hK hA hP hD hS (cp_gh_T hP) (cd_gh_T hD) (fun u H1 hk h1 _ => cj_gh_T hP hD u H1 hk h1) (c_X1_forgetCopies l D cy aT z1 _ h) (cwV 0 F.2.2.2.2 (gG_V k543 k544 k545 k62 k546) rfl rfl rfl hd_X1_forgetCopies ⟨Nat.le_of_ble_eq_true rfl, Nat.le_of_ble_eq_true rfl⟩) rfl rfl dX3_think_15 rfl rfl hl.1 (Nat.le_of_ble_eq_true rfl) ⟨Nat.le_of_ble_eq_true rfl, Nat.le_of_ble_eq_true rfl⟩ (fun z2 H locs h hP hD hS => ?_)
  try dsimp only at h hP hD
  exact ret z2 H locs 18 ls h hP hD hS dX3_think_18
abbrev rX3_thinkAhead : Room := { frames := 4, cells := 0, slots := 0, locals := 91 }
set_option maxHeartbeats 4000000 in
set_option maxRecDepth 20000 in
theorem c_X3_thinkAhead (l : Launch) (D : va_G) (cy : ClassId) (aO : Nat → Nat) (aL : Nat → Nat) (aN : Nat → Nat) (aT : Nat → Nat) (aK : Nat → Nat) (aI : Nat → Nat) (o : AR) (rw : AR) (rf : AR) (lg : AR) (sg : AR) (N : MS) (T : MS) (K : MS) (I : MS) (x1 : Int) (Q : MS → Prop) (h : wX3_thinkAhead N T x1 Q) : MetV l yX3_thinkAhead (wT yX3_thinkAhead cX3_thinkAhead 2 none) rX3_thinkAhead D cy [.ref (aO 0), .int (iI x1)] (wGh cy aO aL aN aT aK aI o rw rf lg sg N T K I) (fun u : MS => wGh cy aO aL aN aT aK aI o rw rf lg sg N u K I) (fun u => Q u) := by
  refine gI_V (by decide) (Nat.le_of_ble_eq_true rfl) ?_
  intro p e s m args below meth c A Qg F hK hA ret H locs ls hl hP hD hS
  have F : CallFix p m c cX3_thinkAhead 2 s args gT RX3 := F
  have hl : lv_has ls 2 [(0, .ref (aO 0)), (1, .int (iI x1))] := hl
  refine lv_aload_n F.1 F.2.1 dX3_thinkAhead_0 rfl (lv_at hl 0 rfl) ?_
  refine gc_VV (As := []) (wn := fun u : MS => wGh cy aO aL aN aT aK aI o rw rf lg sg N u K I) F hK hA hP hD hS hP hD (fun u H1 _ h1 h2 => ⟨h1, h2⟩) (c_X3_think l D cy aO aL aN aT aK aI o rw rf lg sg N T K I _ h) (cwV 0 F.2.2.2.2 (gG_V k539 k541 k19 k61 k542) rfl rfl rfl hd_X3_think ⟨Nat.le_of_ble_eq_true rfl, Nat.le_of_ble_eq_true rfl⟩) rfl rfl dX3_thinkAhead_1 rfl rfl hl.1 (Nat.le_of_ble_eq_true rfl) ⟨Nat.le_of_ble_eq_true rfl, Nat.le_of_ble_eq_true rfl⟩ (fun z1 H locs h hP hD hS => ?_)
  try dsimp only at h hP hD
  refine lv_aload_n F.1 F.2.1 dX3_thinkAhead_4 rfl (lv_at hl 0 rfl) ?_
  refine gv_get F hin3 hK hP 0 rfl rfl 1 (by decide) k189 rfl dX3_thinkAhead_5 ?_
  refine lv_iload_n F.1 F.2.1 dX3_thinkAhead_8 rfl (lv_at hl 1 rfl) ?_
  refine gc_VV (As := [.int (iI x1)]) (wn := fun u : MS => wGh cy aO aL aN aT aK aI o rw rf lg sg N u K I) F hK hA hP hD hS (cp_gh_T hP) (cd_gh_T hD) (fun u H1 hk h1 _ => cj_gh_T hP hD u H1 hk h1) (c_X1_passMinutes l D cy aT z1 x1 _ h) (cwV 1 F.2.2.2.2 (gG_V k431 k432 k433 k62 k434) rfl rfl rfl hd_X1_passMinutes ⟨Nat.le_of_ble_eq_true rfl, Nat.le_of_ble_eq_true rfl⟩) rfl rfl dX3_thinkAhead_9 rfl rfl hl.1 (Nat.le_of_ble_eq_true rfl) ⟨Nat.le_of_ble_eq_true rfl, Nat.le_of_ble_eq_true rfl⟩ (fun z2 H locs h hP hD hS => ?_)
  try dsimp only at h hP hD
  exact ret z2 H locs 12 ls h hP hD hS dX3_thinkAhead_12
abbrev rX3_behind : Room := { frames := 5, cells := 0, slots := 0, locals := 112 }
set_option maxHeartbeats 4000000 in
set_option maxRecDepth 20000 in
theorem c_X3_behind (l : Launch) (D : va_G) (cy : ClassId) (aO : Nat → Nat) (aL : Nat → Nat) (aN : Nat → Nat) (aT : Nat → Nat) (aK : Nat → Nat) (aI : Nat → Nat) (o : AR) (rw : AR) (rf : AR) (lg : AR) (sg : AR) (N : MS) (T : MS) (K : MS) (I : MS) (x1 x2 x3 : Int) (Q : Int → AR → MS → Prop) (h : wX3_behind rf N T x1 x2 x3 Q) : MetI l yX3_behind (wT yX3_behind cX3_behind 4 (some .int)) rX3_behind D cy [.ref (aO 0), .int (iI x1), .int (iI x2), .int (iI x3)] (wGh cy aO aL aN aT aK aI o rw rf lg sg N T K I) (fun u : AR × MS => wGh cy aO aL aN aT aK aI o rw u.1 lg sg N u.2 K I) (fun r u => Q r u.1 u.2) := by
  refine gI_I (by decide) (Nat.le_of_ble_eq_true rfl) ?_
  intro p e s m args below meth c A Qg F hK hA ret H locs ls hl hP hD hS
  have F : CallFix p m c cX3_behind 4 s args gT RX3 := F
  have hl : lv_has ls 4 [(0, .ref (aO 0)), (1, .int (iI x1)), (2, .int (iI x2)), (3, .int (iI x3))] := hl
  refine lv_aload_n F.1 F.2.1 dX3_behind_0 rfl (lv_at hl 0 rfl) ?_
  refine lv_iload_n F.1 F.2.1 dX3_behind_1 rfl (lv_at hl 1 rfl) ?_
  refine gc_VR (As := [.int (iI x1)]) F hK hA hP hS hP (c_X3_noGroup l D cy aO aL aN aT aK aI o rw rf lg sg N T K I x1 _ h) (cwV 1 F.2.2.2.2 (gG_V k407 k409 k10 k61 k410) rfl rfl rfl hd_X3_noGroup ⟨Nat.le_of_ble_eq_true rfl, Nat.le_of_ble_eq_true rfl⟩) rfl rfl dX3_behind_2 rfl rfl hl.1 (Nat.le_of_ble_eq_true rfl) ⟨Nat.le_of_ble_eq_true rfl, Nat.le_of_ble_eq_true rfl⟩ (fun u1 H locs h hP hS => ?_)
  obtain ⟨bu1, h⟩ := h
  refine gv_if_eq (tgt := 14) F (gRb bu1) dX3_behind_5 (by decide) (fun c2 => ?_) (fun c2 => ?_)
  · have h := h.1 c2
    refine lv_iload_n F.1 F.2.1 dX3_behind_14 rfl (lv_at hl 2 rfl) ?_
    obtain ⟨g3, h⟩ := h
    refine gv_if_ge (tgt := 25) F g3 dX3_behind_15 (by decide) (fun c4 => ?_) (fun c4 => ?_)
    · have h := h.1 c4
      refine lv_iload_n F.1 F.2.1 dX3_behind_25 rfl (lv_at hl 2 rfl) ?_
      refine gv_bipush F ⟨by decide, by decide⟩ dX3_behind_26 ?_
      refine gv_icmp_le (tgt := 38) F g3 ⟨by decide, by decide⟩ dX3_behind_28 (by decide) (fun c5 => ?_) (fun c5 => ?_)
      · have h := h.1 c5
        refine lv_iload_n F.1 F.2.1 dX3_behind_38 rfl (lv_at hl 3 rfl) ?_
        obtain ⟨g6, h⟩ := h
        refine gv_if_lt (tgt := 47) F g6 dX3_behind_39 (by decide) (fun c7 => ?_) (fun c7 => ?_)
        · have h := h.1 c7
          refine lv_aload_n F.1 F.2.1 dX3_behind_47 rfl (lv_at hl 0 rfl) ?_
          refine gv_bipush F ⟨by decide, by decide⟩ dX3_behind_48 ?_
          refine gc_VI (As := [.int (iI (-2))]) (wn := fun u : AR => wGh cy aO aL aN aT aK aI o rw u lg sg N T K I) F hK hA hP hD hS hP hD (fun u H1 _ h1 h2 => ⟨h1, h2⟩) (c_X3_refuse l D cy aO aL aN aT aK aI o rw rf lg sg N T K I (-2) _ h) (cwV 1 F.2.2.2.2 (gG_V k220 k222 k2 k61 k223) rfl rfl rfl hd_X3_refuse ⟨Nat.le_of_ble_eq_true rfl, Nat.le_of_ble_eq_true rfl⟩) rfl rfl dX3_behind_50 rfl rfl hl.1 (Nat.le_of_ble_eq_true rfl) ⟨Nat.le_of_ble_eq_true rfl, Nat.le_of_ble_eq_true rfl⟩ (fun u9 z8 H locs h hP hD hS => ?_)
          try dsimp only at h hP hD
          exact ret u9 (z8, T) H locs 53 ls h rfl hP hD hS dX3_behind_53
        · have h := h.2 c7
          refine lv_iload_n F.1 F.2.1 dX3_behind_42 rfl (lv_at hl 3 rfl) ?_
          refine gv_iconst F dX3_behind_43 ?_
          refine gv_icmp_le (tgt := 54) F g6 ⟨by decide, by decide⟩ dX3_behind_44 (by decide) (fun c10 => ?_) (fun c10 => ?_)
          · have h := h.1 c10
            refine lv_aload_n F.1 F.2.1 dX3_behind_54 rfl (lv_at hl 0 rfl) ?_
            refine lv_iload_n F.1 F.2.1 dX3_behind_55 rfl (lv_at hl 2 rfl) ?_
            refine gc_VV (As := [.int (iI x2)]) (wn := fun u : MS => wGh cy aO aL aN aT aK aI o rw rf lg sg N u K I) F hK hA hP hD hS hP hD (fun u H1 _ h1 h2 => ⟨h1, h2⟩) (c_X3_thinkAhead l D cy aO aL aN aT aK aI o rw rf lg sg N T K I x2 _ h) (cwV 1 F.2.2.2.2 (gG_V k535 k537 k18 k61 k538) rfl rfl rfl hd_X3_thinkAhead ⟨Nat.le_of_ble_eq_true rfl, Nat.le_of_ble_eq_true rfl⟩) rfl rfl dX3_behind_56 rfl rfl hl.1 (Nat.le_of_ble_eq_true rfl) ⟨Nat.le_of_ble_eq_true rfl, Nat.le_of_ble_eq_true rfl⟩ (fun z11 H locs h hP hD hS => ?_)
            try dsimp only at h hP hD
            refine lv_iload_n F.1 F.2.1 dX3_behind_59 rfl (lv_at hl 3 rfl) ?_
            by_cases c12 : x3 = 0
            · have h := h.1 c12
              refine gv_tableIn (tgt := 88) (off := 28) F g6 c12 (by decide) (by decide) dX3_behind_60 rfl (by decide) ?_
              refine lv_aload_n F.1 F.2.1 dX3_behind_88 rfl (lv_at hl 0 rfl) ?_
              refine gv_get F hin3 hK hP 0 rfl rfl 1 (by decide) k189 rfl dX3_behind_89 ?_
              refine gv_get F hin1 hK (cp_gh_T hP) 0 rfl rfl 11 (by decide) k139 rfl dX3_behind_92 ?_
              refine lv_iload_n F.1 F.2.1 dX3_behind_95 rfl (lv_at hl 1 rfl) ?_
              obtain ⟨g13, h⟩ := h
              refine gv_iald (n := 5) (g := (z11 11)) F hK (cp_gh_T hP) 11 rfl rfl (by decide) g13 dX3_behind_96 ?_
              exact ret ((z11 11) x1) (rf, z11) H locs 97 ls h rfl hP hD hS dX3_behind_97
            by_cases c14 : x3 = 1
            · have h := h.2.1 c14
              refine gv_tableIn (tgt := 98) (off := 38) F g6 c14 (by decide) (by decide) dX3_behind_60 rfl (by decide) ?_
              refine lv_aload_n F.1 F.2.1 dX3_behind_98 rfl (lv_at hl 0 rfl) ?_
              refine gv_get F hin3 hK hP 0 rfl rfl 1 (by decide) k189 rfl dX3_behind_99 ?_
              refine lv_iload_n F.1 F.2.1 dX3_behind_102 rfl (lv_at hl 1 rfl) ?_
              refine gc_VR (As := [.int (iI x1)]) F hK hA hP hS (cp_gh_T hP) (c_X1_answersOf l D cy aT z11 x1 _ h) (cwV 1 F.2.2.2.2 (gG_V k547 k548 k549 k62 k550) rfl rfl rfl hd_X1_answersOf ⟨Nat.le_of_ble_eq_true rfl, Nat.le_of_ble_eq_true rfl⟩) rfl rfl dX3_behind_103 rfl rfl hl.1 (Nat.le_of_ble_eq_true rfl) ⟨Nat.le_of_ble_eq_true rfl, Nat.le_of_ble_eq_true rfl⟩ (fun u15 H locs h hP hS => ?_)
              exact ret u15 (rf, z11) H locs 106 ls h rfl hP hD hS dX3_behind_106
            by_cases c16 : x3 = 2
            · have h := h.2.2.1 c16
              refine gv_tableIn (tgt := 107) (off := 47) F g6 c16 (by decide) (by decide) dX3_behind_60 rfl (by decide) ?_
              refine lv_aload_n F.1 F.2.1 dX3_behind_107 rfl (lv_at hl 0 rfl) ?_
              refine gv_get F hin3 hK hP 0 rfl rfl 1 (by decide) k189 rfl dX3_behind_108 ?_
              refine lv_iload_n F.1 F.2.1 dX3_behind_111 rfl (lv_at hl 1 rfl) ?_
              refine gc_VR (As := [.int (iI x1)]) F hK hA hP hS (cp_gh_T hP) (c_X1_rightOf l D cy aT z11 x1 _ h) (cwV 1 F.2.2.2.2 (gG_V k551 k528 k529 k62 k530) rfl rfl rfl hd_X1_rightOf ⟨Nat.le_of_ble_eq_true rfl, Nat.le_of_ble_eq_true rfl⟩) rfl rfl dX3_behind_112 rfl rfl hl.1 (Nat.le_of_ble_eq_true rfl) ⟨Nat.le_of_ble_eq_true rfl, Nat.le_of_ble_eq_true rfl⟩ (fun u17 H locs h hP hS => ?_)
              exact ret u17 (rf, z11) H locs 115 ls h rfl hP hD hS dX3_behind_115
            have cd : x3 < 0 ∨ 2 < x3 := by omega
            have h := h.2.2.2 cd
            refine gv_tableOut (tgt := 116) F g6 cd dX3_behind_60 (by decide) ?_
            refine lv_aload_n F.1 F.2.1 dX3_behind_116 rfl (lv_at hl 0 rfl) ?_
            refine gv_get F hin3 hK hP 0 rfl rfl 1 (by decide) k189 rfl dX3_behind_117 ?_
            refine lv_iload_n F.1 F.2.1 dX3_behind_120 rfl (lv_at hl 1 rfl) ?_
            refine gc_VR (As := [.int (iI x1)]) F hK hA hP hS (cp_gh_T hP) (c_X1_copiedBy l D cy aT z11 x1 _ h) (cwV 1 F.2.2.2.2 (gG_V k552 k553 k554 k62 k555) rfl rfl rfl hd_X1_copiedBy ⟨Nat.le_of_ble_eq_true rfl, Nat.le_of_ble_eq_true rfl⟩) rfl rfl dX3_behind_121 rfl rfl hl.1 (Nat.le_of_ble_eq_true rfl) ⟨Nat.le_of_ble_eq_true rfl, Nat.le_of_ble_eq_true rfl⟩ (fun u18 H locs h hP hS => ?_)
            exact ret u18 (rf, z11) H locs 124 ls h rfl hP hD hS dX3_behind_124
          · have h := h.2 c10
            refine lv_aload_n F.1 F.2.1 dX3_behind_47 rfl (lv_at hl 0 rfl) ?_
            refine gv_bipush F ⟨by decide, by decide⟩ dX3_behind_48 ?_
            refine gc_VI (As := [.int (iI (-2))]) (wn := fun u : AR => wGh cy aO aL aN aT aK aI o rw u lg sg N T K I) F hK hA hP hD hS hP hD (fun u H1 _ h1 h2 => ⟨h1, h2⟩) (c_X3_refuse l D cy aO aL aN aT aK aI o rw rf lg sg N T K I (-2) _ h) (cwV 1 F.2.2.2.2 (gG_V k220 k222 k2 k61 k223) rfl rfl rfl hd_X3_refuse ⟨Nat.le_of_ble_eq_true rfl, Nat.le_of_ble_eq_true rfl⟩) rfl rfl dX3_behind_50 rfl rfl hl.1 (Nat.le_of_ble_eq_true rfl) ⟨Nat.le_of_ble_eq_true rfl, Nat.le_of_ble_eq_true rfl⟩ (fun u20 z19 H locs h hP hD hS => ?_)
            try dsimp only at h hP hD
            exact ret u20 (z19, T) H locs 53 ls h rfl hP hD hS dX3_behind_53
      · have h := h.2 c5
        refine lv_aload_n F.1 F.2.1 dX3_behind_31 rfl (lv_at hl 0 rfl) ?_
        refine gv_bipush F ⟨by decide, by decide⟩ dX3_behind_32 ?_
        refine gc_VI (As := [.int (iI (-6))]) (wn := fun u : AR => wGh cy aO aL aN aT aK aI o rw u lg sg N T K I) F hK hA hP hD hS hP hD (fun u H1 _ h1 h2 => ⟨h1, h2⟩) (c_X3_refuse l D cy aO aL aN aT aK aI o rw rf lg sg N T K I (-6) _ h) (cwV 1 F.2.2.2.2 (gG_V k220 k222 k2 k61 k223) rfl rfl rfl hd_X3_refuse ⟨Nat.le_of_ble_eq_true rfl, Nat.le_of_ble_eq_true rfl⟩) rfl rfl dX3_behind_34 rfl rfl hl.1 (Nat.le_of_ble_eq_true rfl) ⟨Nat.le_of_ble_eq_true rfl, Nat.le_of_ble_eq_true rfl⟩ (fun u22 z21 H locs h hP hD hS => ?_)
        try dsimp only at h hP hD
        exact ret u22 (z21, T) H locs 37 ls h rfl hP hD hS dX3_behind_37
    · have h := h.2 c4
      refine lv_aload_n F.1 F.2.1 dX3_behind_18 rfl (lv_at hl 0 rfl) ?_
      refine gv_bipush F ⟨by decide, by decide⟩ dX3_behind_19 ?_
      refine gc_VI (As := [.int (iI (-4))]) (wn := fun u : AR => wGh cy aO aL aN aT aK aI o rw u lg sg N T K I) F hK hA hP hD hS hP hD (fun u H1 _ h1 h2 => ⟨h1, h2⟩) (c_X3_refuse l D cy aO aL aN aT aK aI o rw rf lg sg N T K I (-4) _ h) (cwV 1 F.2.2.2.2 (gG_V k220 k222 k2 k61 k223) rfl rfl rfl hd_X3_refuse ⟨Nat.le_of_ble_eq_true rfl, Nat.le_of_ble_eq_true rfl⟩) rfl rfl dX3_behind_21 rfl rfl hl.1 (Nat.le_of_ble_eq_true rfl) ⟨Nat.le_of_ble_eq_true rfl, Nat.le_of_ble_eq_true rfl⟩ (fun u24 z23 H locs h hP hD hS => ?_)
      try dsimp only at h hP hD
      exact ret u24 (z23, T) H locs 24 ls h rfl hP hD hS dX3_behind_24
  · have h := h.2 c2
    refine lv_aload_n F.1 F.2.1 dX3_behind_8 rfl (lv_at hl 0 rfl) ?_
    refine gv_iconst F dX3_behind_9 ?_
    refine gc_VI (As := [.int (iI (-1))]) (wn := fun u : AR => wGh cy aO aL aN aT aK aI o rw u lg sg N T K I) F hK hA hP hD hS hP hD (fun u H1 _ h1 h2 => ⟨h1, h2⟩) (c_X3_refuse l D cy aO aL aN aT aK aI o rw rf lg sg N T K I (-1) _ h) (cwV 1 F.2.2.2.2 (gG_V k220 k222 k2 k61 k223) rfl rfl rfl hd_X3_refuse ⟨Nat.le_of_ble_eq_true rfl, Nat.le_of_ble_eq_true rfl⟩) rfl rfl dX3_behind_10 rfl rfl hl.1 (Nat.le_of_ble_eq_true rfl) ⟨Nat.le_of_ble_eq_true rfl, Nat.le_of_ble_eq_true rfl⟩ (fun u26 z25 H locs h hP hD hS => ?_)
    try dsimp only at h hP hD
    exact ret u26 (z25, T) H locs 13 ls h rfl hP hD hS dX3_behind_13
abbrev rX3_minutesTillDone : Room := { frames := 3, cells := 0, slots := 0, locals := 69 }
set_option maxHeartbeats 4000000 in
set_option maxRecDepth 20000 in
theorem c_X3_minutesTillDone (l : Launch) (D : va_G) (cy : ClassId) (aO : Nat → Nat) (aL : Nat → Nat) (aN : Nat → Nat) (aT : Nat → Nat) (aK : Nat → Nat) (aI : Nat → Nat) (o : AR) (rw : AR) (rf : AR) (lg : AR) (sg : AR) (N : MS) (T : MS) (K : MS) (I : MS) (x1 : Int) (Q : Int → MS → Prop) (h : wX3_minutesTillDone T x1 Q) : MetI l yX3_minutesTillDone (wT yX3_minutesTillDone cX3_minutesTillDone 3 (some .int)) rX3_minutesTillDone D cy [.ref (aO 0), .int (iI x1)] (wGh cy aO aL aN aT aK aI o rw rf lg sg N T K I) (fun u : MS => wGh cy aO aL aN aT aK aI o rw rf lg sg N u K I) (fun r u => Q r u) := by
  refine gI_I (by decide) (Nat.le_of_ble_eq_true rfl) ?_
  intro p e s m args below meth c A Qg F hK hA ret H locs ls hl hP hD hS
  have F : CallFix p m c cX3_minutesTillDone 3 s args gT RX3 := F
  have hl : lv_has ls 3 [(0, .ref (aO 0)), (1, .int (iI x1))] := hl
  have L2 : ∀ (n : Nat) (y1 : Int) (y2 : Int) (T : MS) (H : Heap) (locs : List Loc) (ls : Array Slot), wX3_minutesTillDone_2 Q n y1 y2 T → va_P D vwCl (wGh cy aO aL aN aT aK aI o rw rf lg sg N T K I) H → va_D A (wGh cy aO aL aN aT aK aI o rw rf lg sg N T K I) → va_S A s.heap H locs → lv_has ls 3 [(0, .ref (aO 0)), (1, .int (iI y1)), (2, .int (iI y2))] → W p l e rX3_minutesTillDone s m args below meth c H locs 0 0 Qg (F0 m 2 ls []) := by
    intro  n
    induction n with
    | zero => intro _ _ _ _ _ _ h; exact h.elim
    | succ n ih =>
      intro y1 y2 T H locs ls h hP hD hS hl
      rw [wX3_minutesTillDone_2_s] at h
      refine lv_iload_n F.1 F.2.1 dX3_minutesTillDone_2 rfl (lv_at hl 2 rfl) ?_
      refine gv_bipush F ⟨by decide, by decide⟩ dX3_minutesTillDone_3 ?_
      obtain ⟨g1, h⟩ := h
      refine gv_icmp_ge (tgt := 32) F g1 ⟨by decide, by decide⟩ dX3_minutesTillDone_5 (by decide) (fun c2 => ?_) (fun c2 => ?_)
      · have h := h.1 c2
        refine lv_iload_n F.1 F.2.1 dX3_minutesTillDone_32 rfl (lv_at hl 2 rfl) ?_
        exact ret y2 T H locs 33 ls h rfl hP hD hS dX3_minutesTillDone_33
      · have h := h.2 c2
        refine lv_aload_n F.1 F.2.1 dX3_minutesTillDone_8 rfl (lv_at hl 0 rfl) ?_
        refine gv_get F hin3 hK hP 0 rfl rfl 1 (by decide) k189 rfl dX3_minutesTillDone_9 ?_
        refine lv_iload_n F.1 F.2.1 dX3_minutesTillDone_12 rfl (lv_at hl 1 rfl) ?_
        refine gc_VR (As := [.int (iI y1)]) F hK hA hP hS (cp_gh_T hP) (c_X1_isDone l D cy aT T y1 _ h) (cwV 1 F.2.2.2.2 (gG_V k568 k569 k570 k62 k571) rfl rfl rfl hd_X1_isDone ⟨Nat.le_of_ble_eq_true rfl, Nat.le_of_ble_eq_true rfl⟩) rfl rfl dX3_minutesTillDone_13 rfl rfl hl.1 (Nat.le_of_ble_eq_true rfl) ⟨Nat.le_of_ble_eq_true rfl, Nat.le_of_ble_eq_true rfl⟩ (fun u3 H locs h hP hS => ?_)
        obtain ⟨bu3, h⟩ := h
        refine gv_if_ne (tgt := 32) F (gRb bu3) dX3_minutesTillDone_16 (by decide) (fun c4 => ?_) (fun c4 => ?_)
        · have h := h.1 c4
          refine lv_iload_n F.1 F.2.1 dX3_minutesTillDone_32 rfl (lv_at hl 2 rfl) ?_
          exact ret y2 T H locs 33 ls h rfl hP hD hS dX3_minutesTillDone_33
        · have h := h.2 c4
          refine lv_aload_n F.1 F.2.1 dX3_minutesTillDone_19 rfl (lv_at hl 0 rfl) ?_
          refine gv_get F hin3 hK hP 0 rfl rfl 1 (by decide) k189 rfl dX3_minutesTillDone_20 ?_
          refine gc_VV (As := []) (wn := fun u : MS => wGh cy aO aL aN aT aK aI o rw rf lg sg N u K I) F hK hA hP hD hS (cp_gh_T hP) (cd_gh_T hD) (fun u H1 hk h1 _ => cj_gh_T hP hD u H1 hk h1) (c_X1_passMinute l D cy aT T _ h) (cwV 0 F.2.2.2.2 (gG_V k572 k436 k437 k62 k438) rfl rfl rfl hd_X1_passMinute ⟨Nat.le_of_ble_eq_true rfl, Nat.le_of_ble_eq_true rfl⟩) rfl rfl dX3_minutesTillDone_23 rfl rfl hl.1 (Nat.le_of_ble_eq_true rfl) ⟨Nat.le_of_ble_eq_true rfl, Nat.le_of_ble_eq_true rfl⟩ (fun z5 H locs h hP hD hS => ?_)
          try dsimp only at h hP hD
          obtain ⟨v6, ev6⟩ : ∃ z : Int, z = y2 + 1 := ⟨_, rfl⟩
          have h := h v6 ev6
          refine gv_iinc (lv' := [(2, .int (iI v6)), (0, .ref (aO 0)), (1, .int (iI y1))]) F dX3_minutesTillDone_26 hl (k := 2) rfl ev6 (by decide) rfl (fun ls hl => ?_)
          refine lv_goto (tgt := 2) F.1 F.2.1 dX3_minutesTillDone_29 (by decide) ?_
          exact ih y1 v6 z5 H locs ls h hP hD hS (lv_sub hl [1, 2, 0] rfl)
  refine gv_iconst F dX3_minutesTillDone_0 ?_
  refine lv_istore_n (lv' := [(2, .int (iI 0)), (0, .ref (aO 0)), (1, .int (iI x1))]) F.1 F.2.1 dX3_minutesTillDone_1 rfl hl (by decide) rfl (fun ls hl => ?_)
  obtain ⟨n7, h⟩ := h
  exact L2 n7 x1 0 T H locs ls h hP hD hS (lv_sub hl [1, 2, 0] rfl)
