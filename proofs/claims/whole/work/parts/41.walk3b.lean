abbrev rX3_noneIfNever : Room := { frames := 0, cells := 0, slots := 0, locals := 0 }
set_option maxHeartbeats 4000000 in
set_option maxRecDepth 20000 in
theorem c_X3_noneIfNever (l : Launch) (D : va_G) (cy : ClassId)   (x0 : Int) (Q : Int → Prop) (h : wX3_noneIfNever x0 Q) : MetR l yX3_noneIfNever (wT yX3_noneIfNever cX3_noneIfNever 1 (some .int)) rX3_noneIfNever D cy [.int (iI x0)] ([]) Q := by
  refine gI_R (by decide) (Nat.le_of_ble_eq_true rfl) ?_
  intro p e s m args below meth c A Qg F hK hA ret H locs ls hl hP hS
  have F : CallFix p m c cX3_noneIfNever 1 s args gT RX3 := F
  have hl : lv_has ls 1 [(0, .int (iI x0))] := hl
  refine lv_iload_n F.1 F.2.1 dX3_noneIfNever_0 rfl (lv_at hl 0 rfl) ?_
  refine gv_bipush F ⟨by decide, by decide⟩ dX3_noneIfNever_1 ?_
  obtain ⟨g1, h⟩ := h
  refine gv_icmp_lt (tgt := 11) F g1 ⟨by decide, by decide⟩ dX3_noneIfNever_3 (by decide) (fun c2 => ?_) (fun c2 => ?_)
  · have h := h.1 c2
    refine lv_iload_n F.1 F.2.1 dX3_noneIfNever_11 rfl (lv_at hl 0 rfl) ?_
    exact ret x0 H locs 12 ls h rfl hS dX3_noneIfNever_12
  · have h := h.2 c2
    refine gv_bipush F ⟨by decide, by decide⟩ dX3_noneIfNever_6 ?_
    refine lv_goto (tgt := 12) F.1 F.2.1 dX3_noneIfNever_8 (by decide) ?_
    exact ret (-9) H locs 12 ls h rfl hS dX3_noneIfNever_12
abbrev rX3_done : Room := { frames := 4, cells := 0, slots := 0, locals := 91 }
set_option maxHeartbeats 4000000 in
set_option maxRecDepth 20000 in
theorem c_X3_done (l : Launch) (D : va_G) (cy : ClassId) (aO : Nat → Nat) (aL : Nat → Nat) (aN : Nat → Nat) (aT : Nat → Nat) (aK : Nat → Nat) (aI : Nat → Nat) (o : AR) (rw : AR) (rf : AR) (lg : AR) (sg : AR) (N : MS) (T : MS) (K : MS) (I : MS) (x1 : Int) (Q : Int → AR → MS → Prop) (h : wX3_done rf N T x1 Q) : MetI l yX3_done (wT yX3_done cX3_done 2 (some .int)) rX3_done D cy [.ref (aO 0), .int (iI x1)] (wGh cy aO aL aN aT aK aI o rw rf lg sg N T K I) (fun u : AR × MS => wGh cy aO aL aN aT aK aI o rw u.1 lg sg N u.2 K I) (fun r u => Q r u.1 u.2) := by
  refine gI_I (by decide) (Nat.le_of_ble_eq_true rfl) ?_
  intro p e s m args below meth c A Qg F hK hA ret H locs ls hl hP hD hS
  have F : CallFix p m c cX3_done 2 s args gT RX3 := F
  have hl : lv_has ls 2 [(0, .ref (aO 0)), (1, .int (iI x1))] := hl
  refine lv_aload_n F.1 F.2.1 dX3_done_0 rfl (lv_at hl 0 rfl) ?_
  refine lv_iload_n F.1 F.2.1 dX3_done_1 rfl (lv_at hl 1 rfl) ?_
  refine gc_VR (As := [.int (iI x1)]) F hK hA hP hS hP (c_X3_noGroup l D cy aO aL aN aT aK aI o rw rf lg sg N T K I x1 _ h) (cwV 1 F.2.2.2.2 (gG_V k407 k409 k10 k61 k410) rfl rfl rfl hd_X3_noGroup ⟨Nat.le_of_ble_eq_true rfl, Nat.le_of_ble_eq_true rfl⟩) rfl rfl dX3_done_2 rfl rfl hl.1 (Nat.le_of_ble_eq_true rfl) ⟨Nat.le_of_ble_eq_true rfl, Nat.le_of_ble_eq_true rfl⟩ (fun u1 H locs h hP hS => ?_)
  obtain ⟨bu1, h⟩ := h
  refine gv_if_eq (tgt := 14) F (gRb bu1) dX3_done_5 (by decide) (fun c2 => ?_) (fun c2 => ?_)
  · have h := h.1 c2
    refine lv_aload_n F.1 F.2.1 dX3_done_14 rfl (lv_at hl 0 rfl) ?_
    refine gc_VV (As := []) (wn := fun u : MS => wGh cy aO aL aN aT aK aI o rw rf lg sg N u K I) F hK hA hP hD hS hP hD (fun u H1 _ h1 h2 => ⟨h1, h2⟩) (c_X3_think l D cy aO aL aN aT aK aI o rw rf lg sg N T K I _ h) (cwV 0 F.2.2.2.2 (gG_V k539 k541 k19 k61 k542) rfl rfl rfl hd_X3_think ⟨Nat.le_of_ble_eq_true rfl, Nat.le_of_ble_eq_true rfl⟩) rfl rfl dX3_done_15 rfl rfl hl.1 (Nat.le_of_ble_eq_true rfl) ⟨Nat.le_of_ble_eq_true rfl, Nat.le_of_ble_eq_true rfl⟩ (fun z3 H locs h hP hD hS => ?_)
    try dsimp only at h hP hD
    refine lv_aload_n F.1 F.2.1 dX3_done_18 rfl (lv_at hl 0 rfl) ?_
    refine lv_iload_n F.1 F.2.1 dX3_done_19 rfl (lv_at hl 1 rfl) ?_
    refine gc_VI (As := [.int (iI x1)]) (wn := fun u : MS => wGh cy aO aL aN aT aK aI o rw rf lg sg N u K I) F hK hA hP hD hS hP hD (fun u H1 _ h1 h2 => ⟨h1, h2⟩) (c_X3_minutesTillDone l D cy aO aL aN aT aK aI o rw rf lg sg N z3 K I x1 _ h) (cwV 1 F.2.2.2.2 (gG_V k564 k566 k20 k61 k567) rfl rfl rfl hd_X3_minutesTillDone ⟨Nat.le_of_ble_eq_true rfl, Nat.le_of_ble_eq_true rfl⟩) rfl rfl dX3_done_20 rfl rfl hl.1 (Nat.le_of_ble_eq_true rfl) ⟨Nat.le_of_ble_eq_true rfl, Nat.le_of_ble_eq_true rfl⟩ (fun u5 z4 H locs h hP hD hS => ?_)
    try dsimp only at h hP hD
    refine gc_SR (As := [.int (iI u5)]) F hK hA hP hS gPnil (c_X3_noneIfNever l D cy u5 _ h) (cwS 1 F.2.2.2.2 (gG_S k573 k574 k61 k575) rfl rfl rfl hd_X3_noneIfNever ⟨Nat.le_of_ble_eq_true rfl, Nat.le_of_ble_eq_true rfl⟩) dX3_done_23 rfl rfl hl.1 (Nat.le_of_ble_eq_true rfl) ⟨Nat.le_of_ble_eq_true rfl, Nat.le_of_ble_eq_true rfl⟩ (fun u6 H locs h hP hS => ?_)
    exact ret u6 (rf, z4) H locs 26 ls h rfl hP hD hS dX3_done_26
  · have h := h.2 c2
    refine lv_aload_n F.1 F.2.1 dX3_done_8 rfl (lv_at hl 0 rfl) ?_
    refine gv_iconst F dX3_done_9 ?_
    refine gc_VI (As := [.int (iI (-1))]) (wn := fun u : AR => wGh cy aO aL aN aT aK aI o rw u lg sg N T K I) F hK hA hP hD hS hP hD (fun u H1 _ h1 h2 => ⟨h1, h2⟩) (c_X3_refuse l D cy aO aL aN aT aK aI o rw rf lg sg N T K I (-1) _ h) (cwV 1 F.2.2.2.2 (gG_V k220 k222 k2 k61 k223) rfl rfl rfl hd_X3_refuse ⟨Nat.le_of_ble_eq_true rfl, Nat.le_of_ble_eq_true rfl⟩) rfl rfl dX3_done_10 rfl rfl hl.1 (Nat.le_of_ble_eq_true rfl) ⟨Nat.le_of_ble_eq_true rfl, Nat.le_of_ble_eq_true rfl⟩ (fun u8 z7 H locs h hP hD hS => ?_)
    try dsimp only at h hP hD
    exact ret u8 (z7, T) H locs 13 ls h rfl hP hD hS dX3_done_13
abbrev rX3_firstDone : Room := { frames := 3, cells := 0, slots := 0, locals := 69 }
set_option maxHeartbeats 4000000 in
set_option maxRecDepth 20000 in
theorem c_X3_firstDone (l : Launch) (D : va_G) (cy : ClassId) (aO : Nat → Nat) (aL : Nat → Nat) (aN : Nat → Nat) (aT : Nat → Nat) (aK : Nat → Nat) (aI : Nat → Nat) (o : AR) (rw : AR) (rf : AR) (lg : AR) (sg : AR) (N : MS) (T : MS) (K : MS) (I : MS) (Q : Int → MS → Prop) (h : wX3_firstDone T Q) : MetI l yX3_firstDone (wT yX3_firstDone cX3_firstDone 3 (some .int)) rX3_firstDone D cy [.ref (aO 0)] (wGh cy aO aL aN aT aK aI o rw rf lg sg N T K I) (fun u : MS => wGh cy aO aL aN aT aK aI o rw rf lg sg N u K I) (fun r u => Q r u) := by
  refine gI_I (by decide) (Nat.le_of_ble_eq_true rfl) ?_
  intro p e s m args below meth c A Qg F hK hA ret H locs ls hl hP hD hS
  have F : CallFix p m c cX3_firstDone 3 s args gT RX3 := F
  have hl : lv_has ls 3 [(0, .ref (aO 0))] := hl
  have L10 : ∀ (K2 : Int → MS → Prop) (hK2 : ∀ (y1 : Int) (T : MS) (H : Heap) (locs : List Loc) (ls : Array Slot), K2 y1 T → va_P D vwCl (wGh cy aO aL aN aT aK aI o rw rf lg sg N T K I) H → va_D A (wGh cy aO aL aN aT aK aI o rw rf lg sg N T K I) → va_S A s.heap H locs → lv_has ls 3 [(0, .ref (aO 0)), (1, .int (iI y1))] → W p l e rX3_firstDone s m args below meth c H locs 0 0 Qg (F0 m 2 ls [])) (n : Nat) (y1 : Int) (y2 : Int) (T : MS) (H : Heap) (locs : List Loc) (ls : Array Slot), wX3_firstDone_10 K2 Q n y1 y2 T → va_P D vwCl (wGh cy aO aL aN aT aK aI o rw rf lg sg N T K I) H → va_D A (wGh cy aO aL aN aT aK aI o rw rf lg sg N T K I) → va_S A s.heap H locs → lv_has ls 3 [(0, .ref (aO 0)), (1, .int (iI y1)), (2, .int (iI y2))] → W p l e rX3_firstDone s m args below meth c H locs 0 0 Qg (F0 m 10 ls []) := by
    intro K2 hK2 n
    induction n with
    | zero => intro _ _ _ _ _ _ h; exact h.elim
    | succ n ih =>
      intro y1 y2 T H locs ls h hP hD hS hl
      rw [wX3_firstDone_10_s] at h
      refine lv_iload_n F.1 F.2.1 dX3_firstDone_10 rfl (lv_at hl 2 rfl) ?_
      refine lv_aload_n F.1 F.2.1 dX3_firstDone_11 rfl (lv_at hl 0 rfl) ?_
      refine gv_get F hin3 hK hP 0 rfl rfl 1 (by decide) k189 rfl dX3_firstDone_12 ?_
      refine gv_get F hin1 hK (cp_gh_T hP) 0 rfl rfl 7 (by decide) k131 rfl dX3_firstDone_15 ?_
      obtain ⟨g1, h⟩ := h
      obtain ⟨g2, h⟩ := h
      refine gv_icmp_ge (tgt := 40) F g1 g2 dX3_firstDone_18 (by decide) (fun c3 => ?_) (fun c3 => ?_)
      · have h := h.1 c3
        refine lv_aload_n F.1 F.2.1 dX3_firstDone_40 rfl (lv_at hl 0 rfl) ?_
        refine gv_get F hin3 hK hP 0 rfl rfl 1 (by decide) k189 rfl dX3_firstDone_41 ?_
        refine gc_VV (As := []) (wn := fun u : MS => wGh cy aO aL aN aT aK aI o rw rf lg sg N u K I) F hK hA hP hD hS (cp_gh_T hP) (cd_gh_T hD) (fun u H1 hk h1 _ => cj_gh_T hP hD u H1 hk h1) (c_X1_passMinute l D cy aT T _ h) (cwV 0 F.2.2.2.2 (gG_V k572 k436 k437 k62 k438) rfl rfl rfl hd_X1_passMinute ⟨Nat.le_of_ble_eq_true rfl, Nat.le_of_ble_eq_true rfl⟩) rfl rfl dX3_firstDone_44 rfl rfl hl.1 (Nat.le_of_ble_eq_true rfl) ⟨Nat.le_of_ble_eq_true rfl, Nat.le_of_ble_eq_true rfl⟩ (fun z4 H locs h hP hD hS => ?_)
        try dsimp only at h hP hD
        obtain ⟨v5, ev5⟩ : ∃ z : Int, z = y1 + 1 := ⟨_, rfl⟩
        have h := h v5 ev5
        refine gv_iinc (lv' := [(1, .int (iI v5)), (0, .ref (aO 0)), (2, .int (iI y2))]) F dX3_firstDone_47 hl (k := 1) rfl ev5 (by decide) rfl (fun ls hl => ?_)
        refine lv_goto (tgt := 2) F.1 F.2.1 dX3_firstDone_50 (by decide) ?_
        exact hK2 v5 z4 H locs ls h hP hD hS (lv_sub hl [1, 0] rfl)
      · have h := h.2 c3
        refine lv_aload_n F.1 F.2.1 dX3_firstDone_21 rfl (lv_at hl 0 rfl) ?_
        refine gv_get F hin3 hK hP 0 rfl rfl 1 (by decide) k189 rfl dX3_firstDone_22 ?_
        refine lv_iload_n F.1 F.2.1 dX3_firstDone_25 rfl (lv_at hl 2 rfl) ?_
        refine gc_VR (As := [.int (iI y2)]) F hK hA hP hS (cp_gh_T hP) (c_X1_isDone l D cy aT T y2 _ h) (cwV 1 F.2.2.2.2 (gG_V k568 k569 k570 k62 k571) rfl rfl rfl hd_X1_isDone ⟨Nat.le_of_ble_eq_true rfl, Nat.le_of_ble_eq_true rfl⟩) rfl rfl dX3_firstDone_26 rfl rfl hl.1 (Nat.le_of_ble_eq_true rfl) ⟨Nat.le_of_ble_eq_true rfl, Nat.le_of_ble_eq_true rfl⟩ (fun u6 H locs h hP hS => ?_)
        obtain ⟨bu6, h⟩ := h
        refine gv_if_eq (tgt := 34) F (gRb bu6) dX3_firstDone_29 (by decide) (fun c7 => ?_) (fun c7 => ?_)
        · have h := h.1 c7
          obtain ⟨v8, ev8⟩ : ∃ z : Int, z = y2 + 1 := ⟨_, rfl⟩
          have h := h v8 ev8
          refine gv_iinc (lv' := [(2, .int (iI v8)), (0, .ref (aO 0)), (1, .int (iI y1))]) F dX3_firstDone_34 hl (k := 2) rfl ev8 (by decide) rfl (fun ls hl => ?_)
          refine lv_goto (tgt := 10) F.1 F.2.1 dX3_firstDone_37 (by decide) ?_
          exact ih y1 v8 T H locs ls h hP hD hS (lv_sub hl [1, 2, 0] rfl)
        · have h := h.2 c7
          refine lv_iload_n F.1 F.2.1 dX3_firstDone_32 rfl (lv_at hl 2 rfl) ?_
          exact ret y2 T H locs 33 ls h rfl hP hD hS dX3_firstDone_33
  have L2 : ∀ (n : Nat) (y1 : Int) (T : MS) (H : Heap) (locs : List Loc) (ls : Array Slot), wX3_firstDone_2 Q n y1 T → va_P D vwCl (wGh cy aO aL aN aT aK aI o rw rf lg sg N T K I) H → va_D A (wGh cy aO aL aN aT aK aI o rw rf lg sg N T K I) → va_S A s.heap H locs → lv_has ls 3 [(0, .ref (aO 0)), (1, .int (iI y1))] → W p l e rX3_firstDone s m args below meth c H locs 0 0 Qg (F0 m 2 ls []) := by
    intro  n
    induction n with
    | zero => intro _ _ _ _ _ h; exact h.elim
    | succ n ih =>
      intro y1 T H locs ls h hP hD hS hl
      rw [wX3_firstDone_2_s] at h
      refine lv_iload_n F.1 F.2.1 dX3_firstDone_2 rfl (lv_at hl 1 rfl) ?_
      refine gv_bipush F ⟨by decide, by decide⟩ dX3_firstDone_3 ?_
      obtain ⟨g9, h⟩ := h
      refine gv_icmp_gt (tgt := 53) F g9 ⟨by decide, by decide⟩ dX3_firstDone_5 (by decide) (fun c10 => ?_) (fun c10 => ?_)
      · have h := h.1 c10
        refine gv_bipush F ⟨by decide, by decide⟩ dX3_firstDone_53 ?_
        exact ret (-9) T H locs 55 ls h rfl hP hD hS dX3_firstDone_55
      · have h := h.2 c10
        refine gv_iconst F dX3_firstDone_8 ?_
        refine lv_istore_n (lv' := [(2, .int (iI 0)), (0, .ref (aO 0)), (1, .int (iI y1))]) F.1 F.2.1 dX3_firstDone_9 rfl hl (by decide) rfl (fun ls hl => ?_)
        obtain ⟨n11, h⟩ := h
        exact L10 _ ih n11 y1 0 T H locs ls h hP hD hS (lv_sub hl [1, 2, 0] rfl)
  refine gv_iconst F dX3_firstDone_0 ?_
  refine lv_istore_n (lv' := [(1, .int (iI 0)), (0, .ref (aO 0))]) F.1 F.2.1 dX3_firstDone_1 rfl hl (by decide) rfl (fun ls hl => ?_)
  obtain ⟨n12, h⟩ := h
  exact L2 n12 0 T H locs ls h hP hD hS (lv_sub hl [1, 0] rfl)
abbrev rX3_minutesTillAllDone : Room := { frames := 3, cells := 0, slots := 0, locals := 69 }
set_option maxHeartbeats 4000000 in
set_option maxRecDepth 20000 in
theorem c_X3_minutesTillAllDone (l : Launch) (D : va_G) (cy : ClassId) (aO : Nat → Nat) (aL : Nat → Nat) (aN : Nat → Nat) (aT : Nat → Nat) (aK : Nat → Nat) (aI : Nat → Nat) (o : AR) (rw : AR) (rf : AR) (lg : AR) (sg : AR) (N : MS) (T : MS) (K : MS) (I : MS) (Q : Int → MS → Prop) (h : wX3_minutesTillAllDone T Q) : MetI l yX3_minutesTillAllDone (wT yX3_minutesTillAllDone cX3_minutesTillAllDone 2 (some .int)) rX3_minutesTillAllDone D cy [.ref (aO 0)] (wGh cy aO aL aN aT aK aI o rw rf lg sg N T K I) (fun u : MS => wGh cy aO aL aN aT aK aI o rw rf lg sg N u K I) (fun r u => Q r u) := by
  refine gI_I (by decide) (Nat.le_of_ble_eq_true rfl) ?_
  intro p e s m args below meth c A Qg F hK hA ret H locs ls hl hP hD hS
  have F : CallFix p m c cX3_minutesTillAllDone 2 s args gT RX3 := F
  have hl : lv_has ls 2 [(0, .ref (aO 0))] := hl
  have L2 : ∀ (n : Nat) (y1 : Int) (T : MS) (H : Heap) (locs : List Loc) (ls : Array Slot), wX3_minutesTillAllDone_2 Q n y1 T → va_P D vwCl (wGh cy aO aL aN aT aK aI o rw rf lg sg N T K I) H → va_D A (wGh cy aO aL aN aT aK aI o rw rf lg sg N T K I) → va_S A s.heap H locs → lv_has ls 2 [(0, .ref (aO 0)), (1, .int (iI y1))] → W p l e rX3_minutesTillAllDone s m args below meth c H locs 0 0 Qg (F0 m 2 ls []) := by
    intro  n
    induction n with
    | zero => intro _ _ _ _ _ h; exact h.elim
    | succ n ih =>
      intro y1 T H locs ls h hP hD hS hl
      rw [wX3_minutesTillAllDone_2_s] at h
      refine lv_iload_n F.1 F.2.1 dX3_minutesTillAllDone_2 rfl (lv_at hl 1 rfl) ?_
      refine gv_bipush F ⟨by decide, by decide⟩ dX3_minutesTillAllDone_3 ?_
      obtain ⟨g1, h⟩ := h
      refine gv_icmp_ge (tgt := 31) F g1 ⟨by decide, by decide⟩ dX3_minutesTillAllDone_5 (by decide) (fun c2 => ?_) (fun c2 => ?_)
      · have h := h.1 c2
        refine lv_iload_n F.1 F.2.1 dX3_minutesTillAllDone_31 rfl (lv_at hl 1 rfl) ?_
        exact ret y1 T H locs 32 ls h rfl hP hD hS dX3_minutesTillAllDone_32
      · have h := h.2 c2
        refine lv_aload_n F.1 F.2.1 dX3_minutesTillAllDone_8 rfl (lv_at hl 0 rfl) ?_
        refine gv_get F hin3 hK hP 0 rfl rfl 1 (by decide) k189 rfl dX3_minutesTillAllDone_9 ?_
        refine gc_VR (As := []) F hK hA hP hS (cp_gh_T hP) (c_X1_undone l D cy aT T _ h) (cwV 0 F.2.2.2.2 (gG_V k588 k589 k590 k62 k591) rfl rfl rfl hd_X1_undone ⟨Nat.le_of_ble_eq_true rfl, Nat.le_of_ble_eq_true rfl⟩) rfl rfl dX3_minutesTillAllDone_12 rfl rfl hl.1 (Nat.le_of_ble_eq_true rfl) ⟨Nat.le_of_ble_eq_true rfl, Nat.le_of_ble_eq_true rfl⟩ (fun u3 H locs h hP hS => ?_)
        obtain ⟨g4, h⟩ := h
        refine gv_if_le (tgt := 31) F g4 dX3_minutesTillAllDone_15 (by decide) (fun c5 => ?_) (fun c5 => ?_)
        · have h := h.1 c5
          refine lv_iload_n F.1 F.2.1 dX3_minutesTillAllDone_31 rfl (lv_at hl 1 rfl) ?_
          exact ret y1 T H locs 32 ls h rfl hP hD hS dX3_minutesTillAllDone_32
        · have h := h.2 c5
          refine lv_aload_n F.1 F.2.1 dX3_minutesTillAllDone_18 rfl (lv_at hl 0 rfl) ?_
          refine gv_get F hin3 hK hP 0 rfl rfl 1 (by decide) k189 rfl dX3_minutesTillAllDone_19 ?_
          refine gc_VV (As := []) (wn := fun u : MS => wGh cy aO aL aN aT aK aI o rw rf lg sg N u K I) F hK hA hP hD hS (cp_gh_T hP) (cd_gh_T hD) (fun u H1 hk h1 _ => cj_gh_T hP hD u H1 hk h1) (c_X1_passMinute l D cy aT T _ h) (cwV 0 F.2.2.2.2 (gG_V k572 k436 k437 k62 k438) rfl rfl rfl hd_X1_passMinute ⟨Nat.le_of_ble_eq_true rfl, Nat.le_of_ble_eq_true rfl⟩) rfl rfl dX3_minutesTillAllDone_22 rfl rfl hl.1 (Nat.le_of_ble_eq_true rfl) ⟨Nat.le_of_ble_eq_true rfl, Nat.le_of_ble_eq_true rfl⟩ (fun z6 H locs h hP hD hS => ?_)
          try dsimp only at h hP hD
          obtain ⟨v7, ev7⟩ : ∃ z : Int, z = y1 + 1 := ⟨_, rfl⟩
          have h := h v7 ev7
          refine gv_iinc (lv' := [(1, .int (iI v7)), (0, .ref (aO 0))]) F dX3_minutesTillAllDone_25 hl (k := 1) rfl ev7 (by decide) rfl (fun ls hl => ?_)
          refine lv_goto (tgt := 2) F.1 F.2.1 dX3_minutesTillAllDone_28 (by decide) ?_
          exact ih v7 z6 H locs ls h hP hD hS (lv_sub hl [1, 0] rfl)
  refine gv_iconst F dX3_minutesTillAllDone_0 ?_
  refine lv_istore_n (lv' := [(1, .int (iI 0)), (0, .ref (aO 0))]) F.1 F.2.1 dX3_minutesTillAllDone_1 rfl hl (by decide) rfl (fun ls hl => ?_)
  obtain ⟨n8, h⟩ := h
  exact L2 n8 0 T H locs ls h hP hD hS (lv_sub hl [1, 0] rfl)
abbrev rX3_ended : Room := { frames := 4, cells := 0, slots := 0, locals := 91 }
set_option maxHeartbeats 4000000 in
set_option maxRecDepth 20000 in
theorem c_X3_ended (l : Launch) (D : va_G) (cy : ClassId) (aO : Nat → Nat) (aL : Nat → Nat) (aN : Nat → Nat) (aT : Nat → Nat) (aK : Nat → Nat) (aI : Nat → Nat) (o : AR) (rw : AR) (rf : AR) (lg : AR) (sg : AR) (N : MS) (T : MS) (K : MS) (I : MS) (x1 : Int) (Q : Int → AR → MS → Prop) (h : wX3_ended rf N T x1 Q) : MetI l yX3_ended (wT yX3_ended cX3_ended 2 (some .int)) rX3_ended D cy [.ref (aO 0), .int (iI x1)] (wGh cy aO aL aN aT aK aI o rw rf lg sg N T K I) (fun u : AR × MS => wGh cy aO aL aN aT aK aI o rw u.1 lg sg N u.2 K I) (fun r u => Q r u.1 u.2) := by
  refine gI_I (by decide) (Nat.le_of_ble_eq_true rfl) ?_
  intro p e s m args below meth c A Qg F hK hA ret H locs ls hl hP hD hS
  have F : CallFix p m c cX3_ended 2 s args gT RX3 := F
  have hl : lv_has ls 2 [(0, .ref (aO 0)), (1, .int (iI x1))] := hl
  refine lv_iload_n F.1 F.2.1 dX3_ended_0 rfl (lv_at hl 1 rfl) ?_
  obtain ⟨g1, h⟩ := h
  refine gv_if_lt (tgt := 9) F g1 dX3_ended_1 (by decide) (fun c2 => ?_) (fun c2 => ?_)
  · have h := h.1 c2
    refine lv_aload_n F.1 F.2.1 dX3_ended_9 rfl (lv_at hl 0 rfl) ?_
    refine gv_bipush F ⟨by decide, by decide⟩ dX3_ended_10 ?_
    refine gc_VI (As := [.int (iI (-2))]) (wn := fun u : AR => wGh cy aO aL aN aT aK aI o rw u lg sg N T K I) F hK hA hP hD hS hP hD (fun u H1 _ h1 h2 => ⟨h1, h2⟩) (c_X3_refuse l D cy aO aL aN aT aK aI o rw rf lg sg N T K I (-2) _ h) (cwV 1 F.2.2.2.2 (gG_V k220 k222 k2 k61 k223) rfl rfl rfl hd_X3_refuse ⟨Nat.le_of_ble_eq_true rfl, Nat.le_of_ble_eq_true rfl⟩) rfl rfl dX3_ended_12 rfl rfl hl.1 (Nat.le_of_ble_eq_true rfl) ⟨Nat.le_of_ble_eq_true rfl, Nat.le_of_ble_eq_true rfl⟩ (fun u4 z3 H locs h hP hD hS => ?_)
    try dsimp only at h hP hD
    exact ret u4 (z3, T) H locs 15 ls h rfl hP hD hS dX3_ended_15
  · have h := h.2 c2
    refine lv_iload_n F.1 F.2.1 dX3_ended_4 rfl (lv_at hl 1 rfl) ?_
    refine gv_iconst F dX3_ended_5 ?_
    refine gv_icmp_le (tgt := 16) F g1 ⟨by decide, by decide⟩ dX3_ended_6 (by decide) (fun c5 => ?_) (fun c5 => ?_)
    · have h := h.1 c5
      refine lv_aload_n F.1 F.2.1 dX3_ended_16 rfl (lv_at hl 0 rfl) ?_
      refine gc_VV (As := []) (wn := fun u : MS => wGh cy aO aL aN aT aK aI o rw rf lg sg N u K I) F hK hA hP hD hS hP hD (fun u H1 _ h1 h2 => ⟨h1, h2⟩) (c_X3_think l D cy aO aL aN aT aK aI o rw rf lg sg N T K I _ h) (cwV 0 F.2.2.2.2 (gG_V k539 k541 k19 k61 k542) rfl rfl rfl hd_X3_think ⟨Nat.le_of_ble_eq_true rfl, Nat.le_of_ble_eq_true rfl⟩) rfl rfl dX3_ended_17 rfl rfl hl.1 (Nat.le_of_ble_eq_true rfl) ⟨Nat.le_of_ble_eq_true rfl, Nat.le_of_ble_eq_true rfl⟩ (fun z6 H locs h hP hD hS => ?_)
      try dsimp only at h hP hD
      refine lv_iload_n F.1 F.2.1 dX3_ended_20 rfl (lv_at hl 1 rfl) ?_
      refine gv_if_ne (tgt := 31) F g1 dX3_ended_21 (by decide) (fun c7 => ?_) (fun c7 => ?_)
      · have h := h.1 c7
        refine lv_aload_n F.1 F.2.1 dX3_ended_31 rfl (lv_at hl 0 rfl) ?_
        refine gc_VI (As := []) (wn := fun u : MS => wGh cy aO aL aN aT aK aI o rw rf lg sg N u K I) F hK hA hP hD hS hP hD (fun u H1 _ h1 h2 => ⟨h1, h2⟩) (c_X3_minutesTillAllDone l D cy aO aL aN aT aK aI o rw rf lg sg N z6 K I _ h) (cwV 0 F.2.2.2.2 (gG_V k584 k586 k22 k61 k587) rfl rfl rfl hd_X3_minutesTillAllDone ⟨Nat.le_of_ble_eq_true rfl, Nat.le_of_ble_eq_true rfl⟩) rfl rfl dX3_ended_32 rfl rfl hl.1 (Nat.le_of_ble_eq_true rfl) ⟨Nat.le_of_ble_eq_true rfl, Nat.le_of_ble_eq_true rfl⟩ (fun u9 z8 H locs h hP hD hS => ?_)
        try dsimp only at h hP hD
        refine gc_SR (As := [.int (iI u9)]) F hK hA hP hS gPnil (c_X3_noneIfNever l D cy u9 _ h) (cwS 1 F.2.2.2.2 (gG_S k573 k574 k61 k575) rfl rfl rfl hd_X3_noneIfNever ⟨Nat.le_of_ble_eq_true rfl, Nat.le_of_ble_eq_true rfl⟩) dX3_ended_35 rfl rfl hl.1 (Nat.le_of_ble_eq_true rfl) ⟨Nat.le_of_ble_eq_true rfl, Nat.le_of_ble_eq_true rfl⟩ (fun u10 H locs h hP hS => ?_)
        exact ret u10 (rf, z8) H locs 38 ls h rfl hP hD hS dX3_ended_38
      · have h := h.2 c7
        refine lv_aload_n F.1 F.2.1 dX3_ended_24 rfl (lv_at hl 0 rfl) ?_
        refine gc_VI (As := []) (wn := fun u : MS => wGh cy aO aL aN aT aK aI o rw rf lg sg N u K I) F hK hA hP hD hS hP hD (fun u H1 _ h1 h2 => ⟨h1, h2⟩) (c_X3_firstDone l D cy aO aL aN aT aK aI o rw rf lg sg N z6 K I _ h) (cwV 0 F.2.2.2.2 (gG_V k580 k582 k21 k61 k583) rfl rfl rfl hd_X3_firstDone ⟨Nat.le_of_ble_eq_true rfl, Nat.le_of_ble_eq_true rfl⟩) rfl rfl dX3_ended_25 rfl rfl hl.1 (Nat.le_of_ble_eq_true rfl) ⟨Nat.le_of_ble_eq_true rfl, Nat.le_of_ble_eq_true rfl⟩ (fun u12 z11 H locs h hP hD hS => ?_)
        try dsimp only at h hP hD
        refine lv_goto (tgt := 38) F.1 F.2.1 dX3_ended_28 (by decide) ?_
        exact ret u12 (rf, z11) H locs 38 ls h rfl hP hD hS dX3_ended_38
    · have h := h.2 c5
      refine lv_aload_n F.1 F.2.1 dX3_ended_9 rfl (lv_at hl 0 rfl) ?_
      refine gv_bipush F ⟨by decide, by decide⟩ dX3_ended_10 ?_
      refine gc_VI (As := [.int (iI (-2))]) (wn := fun u : AR => wGh cy aO aL aN aT aK aI o rw u lg sg N T K I) F hK hA hP hD hS hP hD (fun u H1 _ h1 h2 => ⟨h1, h2⟩) (c_X3_refuse l D cy aO aL aN aT aK aI o rw rf lg sg N T K I (-2) _ h) (cwV 1 F.2.2.2.2 (gG_V k220 k222 k2 k61 k223) rfl rfl rfl hd_X3_refuse ⟨Nat.le_of_ble_eq_true rfl, Nat.le_of_ble_eq_true rfl⟩) rfl rfl dX3_ended_12 rfl rfl hl.1 (Nat.le_of_ble_eq_true rfl) ⟨Nat.le_of_ble_eq_true rfl, Nat.le_of_ble_eq_true rfl⟩ (fun u14 z13 H locs h hP hD hS => ?_)
      try dsimp only at h hP hD
      exact ret u14 (z13, T) H locs 15 ls h rfl hP hD hS dX3_ended_15
abbrev rX3_answer : Room := { frames := 5, cells := 0, slots := 0, locals := 112 }
set_option maxHeartbeats 4000000 in
set_option maxRecDepth 20000 in
theorem c_X3_answer (l : Launch) (D : va_G) (cy : ClassId) (aO : Nat → Nat) (aL : Nat → Nat) (aN : Nat → Nat) (aT : Nat → Nat) (aK : Nat → Nat) (aI : Nat → Nat) (o : AR) (rw : AR) (rf : AR) (lg : AR) (sg : AR) (N : MS) (T : MS) (K : MS) (I : MS) (x1 x2 x3 : Int) (Q : Int → AR → MS → Prop) (h : wX3_answer rf N T x1 x2 x3 Q) : MetI l yX3_answer (wT yX3_answer cX3_answer 4 (some .int)) rX3_answer D cy [.ref (aO 0), .int (iI x1), .int (iI x2), .int (iI x3)] (wGh cy aO aL aN aT aK aI o rw rf lg sg N T K I) (fun u : AR × MS => wGh cy aO aL aN aT aK aI o rw u.1 lg sg N u.2 K I) (fun r u => Q r u.1 u.2) := by
  refine gI_I (by decide) (Nat.le_of_ble_eq_true rfl) ?_
  intro p e s m args below meth c A Qg F hK hA ret H locs ls hl hP hD hS
  have F : CallFix p m c cX3_answer 4 s args gT RX3 := F
  have hl : lv_has ls 4 [(0, .ref (aO 0)), (1, .int (iI x1)), (2, .int (iI x2)), (3, .int (iI x3))] := hl
  refine lv_aload_n F.1 F.2.1 dX3_answer_0 rfl (lv_at hl 0 rfl) ?_
  refine lv_iload_n F.1 F.2.1 dX3_answer_1 rfl (lv_at hl 1 rfl) ?_
  refine gc_VR (As := [.int (iI x1)]) F hK hA hP hS hP (c_X3_noGroup l D cy aO aL aN aT aK aI o rw rf lg sg N T K I x1 _ h) (cwV 1 F.2.2.2.2 (gG_V k407 k409 k10 k61 k410) rfl rfl rfl hd_X3_noGroup ⟨Nat.le_of_ble_eq_true rfl, Nat.le_of_ble_eq_true rfl⟩) rfl rfl dX3_answer_2 rfl rfl hl.1 (Nat.le_of_ble_eq_true rfl) ⟨Nat.le_of_ble_eq_true rfl, Nat.le_of_ble_eq_true rfl⟩ (fun u1 H locs h hP hS => ?_)
  obtain ⟨bu1, h⟩ := h
  refine gv_if_ne (tgt := 16) F (gRb bu1) dX3_answer_5 (by decide) (fun c2 => ?_) (fun c2 => ?_)
  · have h := h.1 c2
    refine lv_aload_n F.1 F.2.1 dX3_answer_16 rfl (lv_at hl 0 rfl) ?_
    refine gv_iconst F dX3_answer_17 ?_
    refine gc_VI (As := [.int (iI (-1))]) (wn := fun u : AR => wGh cy aO aL aN aT aK aI o rw u lg sg N T K I) F hK hA hP hD hS hP hD (fun u H1 _ h1 h2 => ⟨h1, h2⟩) (c_X3_refuse l D cy aO aL aN aT aK aI o rw rf lg sg N T K I (-1) _ h) (cwV 1 F.2.2.2.2 (gG_V k220 k222 k2 k61 k223) rfl rfl rfl hd_X3_refuse ⟨Nat.le_of_ble_eq_true rfl, Nat.le_of_ble_eq_true rfl⟩) rfl rfl dX3_answer_18 rfl rfl hl.1 (Nat.le_of_ble_eq_true rfl) ⟨Nat.le_of_ble_eq_true rfl, Nat.le_of_ble_eq_true rfl⟩ (fun u4 z3 H locs h hP hD hS => ?_)
    try dsimp only at h hP hD
    exact ret u4 (z3, T) H locs 21 ls h rfl hP hD hS dX3_answer_21
  · have h := h.2 c2
    refine lv_aload_n F.1 F.2.1 dX3_answer_8 rfl (lv_at hl 0 rfl) ?_
    refine lv_iload_n F.1 F.2.1 dX3_answer_9 rfl (lv_at hl 2 rfl) ?_
    refine gc_VR (As := [.int (iI x2)]) F hK hA hP hS hP (c_X3_noQuestion l D cy aO aL aN aT aK aI o rw rf lg sg N T K I x2 _ h) (cwV 1 F.2.2.2.2 (gG_V k419 k421 k12 k61 k422) rfl rfl rfl hd_X3_noQuestion ⟨Nat.le_of_ble_eq_true rfl, Nat.le_of_ble_eq_true rfl⟩) rfl rfl dX3_answer_10 rfl rfl hl.1 (Nat.le_of_ble_eq_true rfl) ⟨Nat.le_of_ble_eq_true rfl, Nat.le_of_ble_eq_true rfl⟩ (fun u5 H locs h hP hS => ?_)
    obtain ⟨bu5, h⟩ := h
    refine gv_if_eq (tgt := 22) F (gRb bu5) dX3_answer_13 (by decide) (fun c6 => ?_) (fun c6 => ?_)
    · have h := h.1 c6
      refine lv_iload_n F.1 F.2.1 dX3_answer_22 rfl (lv_at hl 3 rfl) ?_
      obtain ⟨g7, h⟩ := h
      refine gv_if_lt (tgt := 31) F g7 dX3_answer_23 (by decide) (fun c8 => ?_) (fun c8 => ?_)
      · have h := h.1 c8
        refine lv_aload_n F.1 F.2.1 dX3_answer_31 rfl (lv_at hl 0 rfl) ?_
        refine gv_bipush F ⟨by decide, by decide⟩ dX3_answer_32 ?_
        refine gc_VI (As := [.int (iI (-2))]) (wn := fun u : AR => wGh cy aO aL aN aT aK aI o rw u lg sg N T K I) F hK hA hP hD hS hP hD (fun u H1 _ h1 h2 => ⟨h1, h2⟩) (c_X3_refuse l D cy aO aL aN aT aK aI o rw rf lg sg N T K I (-2) _ h) (cwV 1 F.2.2.2.2 (gG_V k220 k222 k2 k61 k223) rfl rfl rfl hd_X3_refuse ⟨Nat.le_of_ble_eq_true rfl, Nat.le_of_ble_eq_true rfl⟩) rfl rfl dX3_answer_34 rfl rfl hl.1 (Nat.le_of_ble_eq_true rfl) ⟨Nat.le_of_ble_eq_true rfl, Nat.le_of_ble_eq_true rfl⟩ (fun u10 z9 H locs h hP hD hS => ?_)
        try dsimp only at h hP hD
        exact ret u10 (z9, T) H locs 37 ls h rfl hP hD hS dX3_answer_37
      · have h := h.2 c8
        refine lv_iload_n F.1 F.2.1 dX3_answer_26 rfl (lv_at hl 3 rfl) ?_
        refine gv_iconst F dX3_answer_27 ?_
        refine gv_icmp_le (tgt := 38) F g7 ⟨by decide, by decide⟩ dX3_answer_28 (by decide) (fun c11 => ?_) (fun c11 => ?_)
        · have h := h.1 c11
          refine lv_aload_n F.1 F.2.1 dX3_answer_38 rfl (lv_at hl 0 rfl) ?_
          refine gv_bipush F ⟨by decide, by decide⟩ dX3_answer_39 ?_
          refine gc_VV (As := [.int (iI 99)]) (wn := fun u : MS => wGh cy aO aL aN aT aK aI o rw rf lg sg N u K I) F hK hA hP hD hS hP hD (fun u H1 _ h1 h2 => ⟨h1, h2⟩) (c_X3_thinkAhead l D cy aO aL aN aT aK aI o rw rf lg sg N T K I 99 _ h) (cwV 1 F.2.2.2.2 (gG_V k535 k537 k18 k61 k538) rfl rfl rfl hd_X3_thinkAhead ⟨Nat.le_of_ble_eq_true rfl, Nat.le_of_ble_eq_true rfl⟩) rfl rfl dX3_answer_41 rfl rfl hl.1 (Nat.le_of_ble_eq_true rfl) ⟨Nat.le_of_ble_eq_true rfl, Nat.le_of_ble_eq_true rfl⟩ (fun z12 H locs h hP hD hS => ?_)
          try dsimp only at h hP hD
          refine lv_iload_n F.1 F.2.1 dX3_answer_44 rfl (lv_at hl 3 rfl) ?_
          refine gv_if_ne (tgt := 60) F g7 dX3_answer_45 (by decide) (fun c13 => ?_) (fun c13 => ?_)
          · have h := h.1 c13
            refine lv_aload_n F.1 F.2.1 dX3_answer_60 rfl (lv_at hl 0 rfl) ?_
            refine gv_get F hin3 hK hP 0 rfl rfl 1 (by decide) k189 rfl dX3_answer_61 ?_
            refine lv_iload_n F.1 F.2.1 dX3_answer_64 rfl (lv_at hl 1 rfl) ?_
            refine lv_iload_n F.1 F.2.1 dX3_answer_65 rfl (lv_at hl 2 rfl) ?_
            refine gc_VR (As := [.int (iI x1), .int (iI x2)]) F hK hA hP hS (cp_gh_T hP) (c_X1_sourceOf l D cy aT z12 x1 x2 _ h) (cwV 2 F.2.2.2.2 (gG_V k597 k557 k558 k62 k559) rfl rfl rfl hd_X1_sourceOf ⟨Nat.le_of_ble_eq_true rfl, Nat.le_of_ble_eq_true rfl⟩) rfl rfl dX3_answer_66 rfl rfl hl.1 (Nat.le_of_ble_eq_true rfl) ⟨Nat.le_of_ble_eq_true rfl, Nat.le_of_ble_eq_true rfl⟩ (fun u14 H locs h hP hS => ?_)
            exact ret u14 (rf, z12) H locs 69 ls h rfl hP hD hS dX3_answer_69
          · have h := h.2 c13
            refine lv_aload_n F.1 F.2.1 dX3_answer_48 rfl (lv_at hl 0 rfl) ?_
            refine gv_get F hin3 hK hP 0 rfl rfl 1 (by decide) k189 rfl dX3_answer_49 ?_
            refine lv_iload_n F.1 F.2.1 dX3_answer_52 rfl (lv_at hl 1 rfl) ?_
            refine lv_iload_n F.1 F.2.1 dX3_answer_53 rfl (lv_at hl 2 rfl) ?_
            refine gc_VR (As := [.int (iI x1), .int (iI x2)]) F hK hA hP hS (cp_gh_T hP) (c_X1_answerOf l D cy aT z12 x1 x2 _ h) (cwV 2 F.2.2.2.2 (gG_V k501 k469 k470 k62 k471) rfl rfl rfl hd_X1_answerOf ⟨Nat.le_of_ble_eq_true rfl, Nat.le_of_ble_eq_true rfl⟩) rfl rfl dX3_answer_54 rfl rfl hl.1 (Nat.le_of_ble_eq_true rfl) ⟨Nat.le_of_ble_eq_true rfl, Nat.le_of_ble_eq_true rfl⟩ (fun u15 H locs h hP hS => ?_)
            refine lv_goto (tgt := 69) F.1 F.2.1 dX3_answer_57 (by decide) ?_
            exact ret u15 (rf, z12) H locs 69 ls h rfl hP hD hS dX3_answer_69
        · have h := h.2 c11
          refine lv_aload_n F.1 F.2.1 dX3_answer_31 rfl (lv_at hl 0 rfl) ?_
          refine gv_bipush F ⟨by decide, by decide⟩ dX3_answer_32 ?_
          refine gc_VI (As := [.int (iI (-2))]) (wn := fun u : AR => wGh cy aO aL aN aT aK aI o rw u lg sg N T K I) F hK hA hP hD hS hP hD (fun u H1 _ h1 h2 => ⟨h1, h2⟩) (c_X3_refuse l D cy aO aL aN aT aK aI o rw rf lg sg N T K I (-2) _ h) (cwV 1 F.2.2.2.2 (gG_V k220 k222 k2 k61 k223) rfl rfl rfl hd_X3_refuse ⟨Nat.le_of_ble_eq_true rfl, Nat.le_of_ble_eq_true rfl⟩) rfl rfl dX3_answer_34 rfl rfl hl.1 (Nat.le_of_ble_eq_true rfl) ⟨Nat.le_of_ble_eq_true rfl, Nat.le_of_ble_eq_true rfl⟩ (fun u17 z16 H locs h hP hD hS => ?_)
          try dsimp only at h hP hD
          exact ret u17 (z16, T) H locs 37 ls h rfl hP hD hS dX3_answer_37
    · have h := h.2 c6
      refine lv_aload_n F.1 F.2.1 dX3_answer_16 rfl (lv_at hl 0 rfl) ?_
      refine gv_iconst F dX3_answer_17 ?_
      refine gc_VI (As := [.int (iI (-1))]) (wn := fun u : AR => wGh cy aO aL aN aT aK aI o rw u lg sg N T K I) F hK hA hP hD hS hP hD (fun u H1 _ h1 h2 => ⟨h1, h2⟩) (c_X3_refuse l D cy aO aL aN aT aK aI o rw rf lg sg N T K I (-1) _ h) (cwV 1 F.2.2.2.2 (gG_V k220 k222 k2 k61 k223) rfl rfl rfl hd_X3_refuse ⟨Nat.le_of_ble_eq_true rfl, Nat.le_of_ble_eq_true rfl⟩) rfl rfl dX3_answer_18 rfl rfl hl.1 (Nat.le_of_ble_eq_true rfl) ⟨Nat.le_of_ble_eq_true rfl, Nat.le_of_ble_eq_true rfl⟩ (fun u19 z18 H locs h hP hD hS => ?_)
      try dsimp only at h hP hD
      exact ret u19 (z18, T) H locs 21 ls h rfl hP hD hS dX3_answer_21
abbrev rX3_fullest : Room := { frames := 3, cells := 0, slots := 0, locals := 69 }
set_option maxHeartbeats 4000000 in
set_option maxRecDepth 20000 in
theorem c_X3_fullest (l : Launch) (D : va_G) (cy : ClassId) (aO : Nat → Nat) (aL : Nat → Nat) (aN : Nat → Nat) (aT : Nat → Nat) (aK : Nat → Nat) (aI : Nat → Nat) (o : AR) (rw : AR) (rf : AR) (lg : AR) (sg : AR) (N : MS) (T : MS) (K : MS) (I : MS) (x1 x2 : Int) (Q : Int → MS → Prop) (h : wX3_fullest T x1 x2 Q) : MetI l yX3_fullest (wT yX3_fullest cX3_fullest 9 (some .int)) rX3_fullest D cy [.ref (aO 0), .int (iI x1), .int (iI x2)] (wGh cy aO aL aN aT aK aI o rw rf lg sg N T K I) (fun u : MS => wGh cy aO aL aN aT aK aI o rw rf lg sg N u K I) (fun r u => Q r u) := by
  refine gI_I (by decide) (Nat.le_of_ble_eq_true rfl) ?_
  intro p e s m args below meth c A Qg F hK hA ret H locs ls hl hP hD hS
  have F : CallFix p m c cX3_fullest 9 s args gT RX3 := F
  have hl : lv_has ls 9 [(0, .ref (aO 0)), (1, .int (iI x1)), (2, .int (iI x2))] := hl
  have L20 : ∀ (K11 : Int → Int → Int → Int → Int → Int → MS → Prop) (hK11 : ∀ (y1 : Int) (y2 : Int) (y3 : Int) (y4 : Int) (y5 : Int) (y6 : Int) (T : MS) (H : Heap) (locs : List Loc) (ls : Array Slot), K11 y1 y2 y3 y4 y5 y6 T → va_P D vwCl (wGh cy aO aL aN aT aK aI o rw rf lg sg N T K I) H → va_D A (wGh cy aO aL aN aT aK aI o rw rf lg sg N T K I) → va_S A s.heap H locs → lv_has ls 9 [(0, .ref (aO 0)), (1, .int (iI y1)), (2, .int (iI y2)), (3, .int (iI y3)), (4, .int (iI y4)), (5, .int (iI y5)), (6, .int (iI y6))] → W p l e rX3_fullest s m args below meth c H locs 0 0 Qg (F0 m 11 ls [])) (n : Nat) (y1 : Int) (y2 : Int) (y3 : Int) (y4 : Int) (y5 : Int) (y6 : Int) (y7 : Int) (T : MS) (H : Heap) (locs : List Loc) (ls : Array Slot), wX3_fullest_20 K11 Q n y1 y2 y3 y4 y5 y6 y7 T → va_P D vwCl (wGh cy aO aL aN aT aK aI o rw rf lg sg N T K I) H → va_D A (wGh cy aO aL aN aT aK aI o rw rf lg sg N T K I) → va_S A s.heap H locs → lv_has ls 9 [(0, .ref (aO 0)), (1, .int (iI y1)), (2, .int (iI y2)), (3, .int (iI y3)), (4, .int (iI y4)), (5, .int (iI y5)), (6, .int (iI y6)), (7, .int (iI y7))] → W p l e rX3_fullest s m args below meth c H locs 0 0 Qg (F0 m 20 ls []) := by
    intro K11 hK11 n
    induction n with
    | zero => intro _ _ _ _ _ _ _ _ _ _ _ h; exact h.elim
    | succ n ih =>
      intro y1 y2 y3 y4 y5 y6 y7 T H locs ls h hP hD hS hl
      rw [wX3_fullest_20_s] at h
      refine lv_iload F.1 F.2.1 dX3_fullest_20 (lv_at hl 7 rfl) ?_
      refine gv_bipush F ⟨by decide, by decide⟩ dX3_fullest_22 ?_
      obtain ⟨g1, h⟩ := h
      refine gv_icmp_ge (tgt := 61) F g1 ⟨by decide, by decide⟩ dX3_fullest_24 (by decide) (fun c2 => ?_) (fun c2 => ?_)
      · have h := h.1 c2
        refine lv_aload_n F.1 F.2.1 dX3_fullest_61 rfl (lv_at hl 0 rfl) ?_
        refine gv_get F hin3 hK hP 0 rfl rfl 1 (by decide) k189 rfl dX3_fullest_62 ?_
        refine gc_VV (As := []) (wn := fun u : MS => wGh cy aO aL aN aT aK aI o rw rf lg sg N u K I) F hK hA hP hD hS (cp_gh_T hP) (cd_gh_T hD) (fun u H1 hk h1 _ => cj_gh_T hP hD u H1 hk h1) (c_X1_passMinute l D cy aT T _ h) (cwV 0 F.2.2.2.2 (gG_V k572 k436 k437 k62 k438) rfl rfl rfl hd_X1_passMinute ⟨Nat.le_of_ble_eq_true rfl, Nat.le_of_ble_eq_true rfl⟩) rfl rfl dX3_fullest_65 rfl rfl hl.1 (Nat.le_of_ble_eq_true rfl) ⟨Nat.le_of_ble_eq_true rfl, Nat.le_of_ble_eq_true rfl⟩ (fun z3 H locs h hP hD hS => ?_)
        try dsimp only at h hP hD
        obtain ⟨v4, ev4⟩ : ∃ z : Int, z = y6 + 1 := ⟨_, rfl⟩
        have h := h v4 ev4
        refine gv_iinc (lv' := [(6, .int (iI v4)), (0, .ref (aO 0)), (1, .int (iI y1)), (2, .int (iI y2)), (3, .int (iI y3)), (4, .int (iI y4)), (5, .int (iI y5)), (7, .int (iI y7))]) F dX3_fullest_68 hl (k := 6) rfl ev4 (by decide) rfl (fun ls hl => ?_)
        refine lv_goto (tgt := 11) F.1 F.2.1 dX3_fullest_71 (by decide) ?_
        exact hK11 y1 y2 y3 y4 y5 v4 z3 H locs ls h hP hD hS (lv_sub hl [1, 2, 3, 4, 5, 6, 0] rfl)
      · have h := h.2 c2
        refine lv_aload_n F.1 F.2.1 dX3_fullest_27 rfl (lv_at hl 0 rfl) ?_
        refine gv_get F hin3 hK hP 0 rfl rfl 1 (by decide) k189 rfl dX3_fullest_28 ?_
        refine lv_iload F.1 F.2.1 dX3_fullest_31 (lv_at hl 7 rfl) ?_
        refine gc_VR (As := [.int (iI y7)]) F hK hA hP hS (cp_gh_T hP) (c_X1_groupsAt l D cy aT T y7 _ h) (cwV 1 F.2.2.2.2 (gG_V k606 k607 k608 k62 k609) rfl rfl rfl hd_X1_groupsAt ⟨Nat.le_of_ble_eq_true rfl, Nat.le_of_ble_eq_true rfl⟩) rfl rfl dX3_fullest_33 rfl rfl hl.1 (Nat.le_of_ble_eq_true rfl) ⟨Nat.le_of_ble_eq_true rfl, Nat.le_of_ble_eq_true rfl⟩ (fun u5 H locs h hP hS => ?_)
        refine lv_istore (lv' := [(8, .int (iI u5)), (0, .ref (aO 0)), (1, .int (iI y1)), (2, .int (iI y2)), (3, .int (iI y3)), (4, .int (iI y4)), (5, .int (iI y5)), (6, .int (iI y6)), (7, .int (iI y7))]) F.1 F.2.1 dX3_fullest_36 hl (by decide) rfl (fun ls hl => ?_)
        refine lv_iload F.1 F.2.1 dX3_fullest_38 (lv_at hl 0 rfl) ?_
        refine lv_iload_n F.1 F.2.1 dX3_fullest_40 rfl (lv_at hl 4 rfl) ?_
        obtain ⟨g6, h⟩ := h
        obtain ⟨g7, h⟩ := h
        refine gv_icmp_le (tgt := 55) F g6 g7 dX3_fullest_41 (by decide) (fun c8 => ?_) (fun c8 => ?_)
        · have h := h.1 c8
          obtain ⟨v9, ev9⟩ : ∃ z : Int, z = y7 + 1 := ⟨_, rfl⟩
          have h := h v9 ev9
          refine gv_iinc (lv' := [(7, .int (iI v9)), (8, .int (iI u5)), (0, .ref (aO 0)), (1, .int (iI y1)), (2, .int (iI y2)), (3, .int (iI y3)), (4, .int (iI y4)), (5, .int (iI y5)), (6, .int (iI y6))]) F dX3_fullest_55 hl (k := 8) rfl ev9 (by decide) rfl (fun ls hl => ?_)
          refine lv_goto (tgt := 20) F.1 F.2.1 dX3_fullest_58 (by decide) ?_
          exact ih y1 y2 y3 y4 y5 y6 v9 T H locs ls h hP hD hS (lv_sub hl [2, 3, 4, 5, 6, 7, 8, 0] rfl)
        · have h := h.2 c8
          refine lv_iload F.1 F.2.1 dX3_fullest_44 (lv_at hl 0 rfl) ?_
          refine lv_istore_n (lv' := [(3, .int (iI u5)), (8, .int (iI u5)), (0, .ref (aO 0)), (1, .int (iI y1)), (2, .int (iI y2)), (4, .int (iI y4)), (5, .int (iI y5)), (6, .int (iI y6)), (7, .int (iI y7))]) F.1 F.2.1 dX3_fullest_46 rfl hl (by decide) rfl (fun ls hl => ?_)
          refine lv_iload F.1 F.2.1 dX3_fullest_47 (lv_at hl 7 rfl) ?_
          refine lv_istore (lv' := [(4, .int (iI y6)), (3, .int (iI u5)), (8, .int (iI u5)), (0, .ref (aO 0)), (1, .int (iI y1)), (2, .int (iI y2)), (5, .int (iI y5)), (6, .int (iI y6)), (7, .int (iI y7))]) F.1 F.2.1 dX3_fullest_49 hl (by decide) rfl (fun ls hl => ?_)
          refine lv_iload F.1 F.2.1 dX3_fullest_51 (lv_at hl 8 rfl) ?_
          refine lv_istore (lv' := [(5, .int (iI y7)), (4, .int (iI y6)), (3, .int (iI u5)), (8, .int (iI u5)), (0, .ref (aO 0)), (1, .int (iI y1)), (2, .int (iI y2)), (6, .int (iI y6)), (7, .int (iI y7))]) F.1 F.2.1 dX3_fullest_53 hl (by decide) rfl (fun ls hl => ?_)
          obtain ⟨v10, ev10⟩ : ∃ z : Int, z = y7 + 1 := ⟨_, rfl⟩
          have h := h v10 ev10
          refine gv_iinc (lv' := [(7, .int (iI v10)), (5, .int (iI y7)), (4, .int (iI y6)), (3, .int (iI u5)), (8, .int (iI u5)), (0, .ref (aO 0)), (1, .int (iI y1)), (2, .int (iI y2)), (6, .int (iI y6))]) F dX3_fullest_55 hl (k := 8) rfl ev10 (by decide) rfl (fun ls hl => ?_)
          refine lv_goto (tgt := 20) F.1 F.2.1 dX3_fullest_58 (by decide) ?_
          exact ih y1 y2 u5 y6 y7 y6 v10 T H locs ls h hP hD hS (lv_sub hl [5, 6, 7, 3, 2, 1, 8, 0] rfl)
  have L11 : ∀ (n : Nat) (y1 : Int) (y2 : Int) (y3 : Int) (y4 : Int) (y5 : Int) (y6 : Int) (T : MS) (H : Heap) (locs : List Loc) (ls : Array Slot), wX3_fullest_11 Q n y1 y2 y3 y4 y5 y6 T → va_P D vwCl (wGh cy aO aL aN aT aK aI o rw rf lg sg N T K I) H → va_D A (wGh cy aO aL aN aT aK aI o rw rf lg sg N T K I) → va_S A s.heap H locs → lv_has ls 9 [(0, .ref (aO 0)), (1, .int (iI y1)), (2, .int (iI y2)), (3, .int (iI y3)), (4, .int (iI y4)), (5, .int (iI y5)), (6, .int (iI y6))] → W p l e rX3_fullest s m args below meth c H locs 0 0 Qg (F0 m 11 ls []) := by
    intro  n
    induction n with
    | zero => intro _ _ _ _ _ _ _ _ _ _ h; exact h.elim
    | succ n ih =>
      intro y1 y2 y3 y4 y5 y6 T H locs ls h hP hD hS hl
      rw [wX3_fullest_11_s] at h
      refine lv_iload F.1 F.2.1 dX3_fullest_11 (lv_at hl 6 rfl) ?_
      refine lv_iload_n F.1 F.2.1 dX3_fullest_13 rfl (lv_at hl 1 rfl) ?_
      obtain ⟨g11, h⟩ := h
      obtain ⟨g12, h⟩ := h
      refine gv_icmp_gt (tgt := 74) F g11 g12 dX3_fullest_14 (by decide) (fun c13 => ?_) (fun c13 => ?_)
      · have h := h.1 c13
        refine lv_iload_n F.1 F.2.1 dX3_fullest_74 rfl (lv_at hl 2 rfl) ?_
        obtain ⟨g14, h⟩ := h
        refine gv_if_ne (tgt := 80) F g14 dX3_fullest_75 (by decide) (fun c15 => ?_) (fun c15 => ?_)
        · have h := h.1 c15
          refine lv_iload_n F.1 F.2.1 dX3_fullest_80 rfl (lv_at hl 2 rfl) ?_
          refine gv_iconst F dX3_fullest_81 ?_
          refine gv_icmp_ne (tgt := 90) F g14 ⟨by decide, by decide⟩ dX3_fullest_82 (by decide) (fun c16 => ?_) (fun c16 => ?_)
          · have h := h.1 c16
            refine lv_iload F.1 F.2.1 dX3_fullest_90 (lv_at hl 5 rfl) ?_
            exact ret y5 T H locs 92 ls h rfl hP hD hS dX3_fullest_92
          · have h := h.2 c16
            refine lv_iload F.1 F.2.1 dX3_fullest_85 (lv_at hl 4 rfl) ?_
            refine lv_goto (tgt := 92) F.1 F.2.1 dX3_fullest_87 (by decide) ?_
            exact ret y4 T H locs 92 ls h rfl hP hD hS dX3_fullest_92
        · have h := h.2 c15
          refine lv_iload_n F.1 F.2.1 dX3_fullest_78 rfl (lv_at hl 3 rfl) ?_
          exact ret y3 T H locs 79 ls h rfl hP hD hS dX3_fullest_79
      · have h := h.2 c13
        refine gv_iconst F dX3_fullest_17 ?_
        refine lv_istore (lv' := [(7, .int (iI 0)), (0, .ref (aO 0)), (1, .int (iI y1)), (2, .int (iI y2)), (3, .int (iI y3)), (4, .int (iI y4)), (5, .int (iI y5)), (6, .int (iI y6))]) F.1 F.2.1 dX3_fullest_18 hl (by decide) rfl (fun ls hl => ?_)
        obtain ⟨n17, h⟩ := h
        exact L20 _ ih n17 y1 y2 y3 y4 y5 y6 0 T H locs ls h hP hD hS (lv_sub hl [1, 2, 3, 4, 5, 6, 7, 0] rfl)
  refine gv_iconst F dX3_fullest_0 ?_
  refine lv_istore_n (lv' := [(3, .int (iI (-1))), (0, .ref (aO 0)), (1, .int (iI x1)), (2, .int (iI x2))]) F.1 F.2.1 dX3_fullest_1 rfl hl (by decide) rfl (fun ls hl => ?_)
  refine gv_iconst F dX3_fullest_2 ?_
  refine lv_istore (lv' := [(4, .int (iI 0)), (3, .int (iI (-1))), (0, .ref (aO 0)), (1, .int (iI x1)), (2, .int (iI x2))]) F.1 F.2.1 dX3_fullest_3 hl (by decide) rfl (fun ls hl => ?_)
  refine gv_iconst F dX3_fullest_5 ?_
  refine lv_istore (lv' := [(5, .int (iI 0)), (4, .int (iI 0)), (3, .int (iI (-1))), (0, .ref (aO 0)), (1, .int (iI x1)), (2, .int (iI x2))]) F.1 F.2.1 dX3_fullest_6 hl (by decide) rfl (fun ls hl => ?_)
  refine gv_iconst F dX3_fullest_8 ?_
  refine lv_istore (lv' := [(6, .int (iI 0)), (5, .int (iI 0)), (4, .int (iI 0)), (3, .int (iI (-1))), (0, .ref (aO 0)), (1, .int (iI x1)), (2, .int (iI x2))]) F.1 F.2.1 dX3_fullest_9 hl (by decide) rfl (fun ls hl => ?_)
  obtain ⟨n18, h⟩ := h
  exact L11 n18 x1 x2 (-1) 0 0 0 T H locs ls h hP hD hS (lv_sub hl [4, 5, 6, 3, 2, 1, 0] rfl)
abbrev rX3_full : Room := { frames := 4, cells := 0, slots := 0, locals := 97 }
set_option maxHeartbeats 4000000 in
set_option maxRecDepth 20000 in
theorem c_X3_full (l : Launch) (D : va_G) (cy : ClassId) (aO : Nat → Nat) (aL : Nat → Nat) (aN : Nat → Nat) (aT : Nat → Nat) (aK : Nat → Nat) (aI : Nat → Nat) (o : AR) (rw : AR) (rf : AR) (lg : AR) (sg : AR) (N : MS) (T : MS) (K : MS) (I : MS) (x1 x2 : Int) (Q : Int → AR → MS → Prop) (h : wX3_full rf N T x1 x2 Q) : MetI l yX3_full (wT yX3_full cX3_full 3 (some .int)) rX3_full D cy [.ref (aO 0), .int (iI x1), .int (iI x2)] (wGh cy aO aL aN aT aK aI o rw rf lg sg N T K I) (fun u : AR × MS => wGh cy aO aL aN aT aK aI o rw u.1 lg sg N u.2 K I) (fun r u => Q r u.1 u.2) := by
  refine gI_I (by decide) (Nat.le_of_ble_eq_true rfl) ?_
  intro p e s m args below meth c A Qg F hK hA ret H locs ls hl hP hD hS
  have F : CallFix p m c cX3_full 3 s args gT RX3 := F
  have hl : lv_has ls 3 [(0, .ref (aO 0)), (1, .int (iI x1)), (2, .int (iI x2))] := hl
  refine lv_iload_n F.1 F.2.1 dX3_full_0 rfl (lv_at hl 1 rfl) ?_
  obtain ⟨g1, h⟩ := h
  refine gv_if_ge (tgt := 11) F g1 dX3_full_1 (by decide) (fun c2 => ?_) (fun c2 => ?_)
  · have h := h.1 c2
    refine lv_iload_n F.1 F.2.1 dX3_full_11 rfl (lv_at hl 1 rfl) ?_
    refine gv_bipush F ⟨by decide, by decide⟩ dX3_full_12 ?_
    refine gv_icmp_le (tgt := 24) F g1 ⟨by decide, by decide⟩ dX3_full_14 (by decide) (fun c3 => ?_) (fun c3 => ?_)
    · have h := h.1 c3
      refine lv_iload_n F.1 F.2.1 dX3_full_24 rfl (lv_at hl 2 rfl) ?_
      obtain ⟨g4, h⟩ := h
      refine gv_if_lt (tgt := 33) F g4 dX3_full_25 (by decide) (fun c5 => ?_) (fun c5 => ?_)
      · have h := h.1 c5
        refine lv_aload_n F.1 F.2.1 dX3_full_33 rfl (lv_at hl 0 rfl) ?_
        refine gv_bipush F ⟨by decide, by decide⟩ dX3_full_34 ?_
        refine gc_VI (As := [.int (iI (-2))]) (wn := fun u : AR => wGh cy aO aL aN aT aK aI o rw u lg sg N T K I) F hK hA hP hD hS hP hD (fun u H1 _ h1 h2 => ⟨h1, h2⟩) (c_X3_refuse l D cy aO aL aN aT aK aI o rw rf lg sg N T K I (-2) _ h) (cwV 1 F.2.2.2.2 (gG_V k220 k222 k2 k61 k223) rfl rfl rfl hd_X3_refuse ⟨Nat.le_of_ble_eq_true rfl, Nat.le_of_ble_eq_true rfl⟩) rfl rfl dX3_full_36 rfl rfl hl.1 (Nat.le_of_ble_eq_true rfl) ⟨Nat.le_of_ble_eq_true rfl, Nat.le_of_ble_eq_true rfl⟩ (fun u7 z6 H locs h hP hD hS => ?_)
        try dsimp only at h hP hD
        exact ret u7 (z6, T) H locs 39 ls h rfl hP hD hS dX3_full_39
      · have h := h.2 c5
        refine lv_iload_n F.1 F.2.1 dX3_full_28 rfl (lv_at hl 2 rfl) ?_
        refine gv_iconst F dX3_full_29 ?_
        refine gv_icmp_le (tgt := 40) F g4 ⟨by decide, by decide⟩ dX3_full_30 (by decide) (fun c8 => ?_) (fun c8 => ?_)
        · have h := h.1 c8
          refine lv_aload_n F.1 F.2.1 dX3_full_40 rfl (lv_at hl 0 rfl) ?_
          refine gc_VV (As := []) (wn := fun u : MS => wGh cy aO aL aN aT aK aI o rw rf lg sg N u K I) F hK hA hP hD hS hP hD (fun u H1 _ h1 h2 => ⟨h1, h2⟩) (c_X3_think l D cy aO aL aN aT aK aI o rw rf lg sg N T K I _ h) (cwV 0 F.2.2.2.2 (gG_V k539 k541 k19 k61 k542) rfl rfl rfl hd_X3_think ⟨Nat.le_of_ble_eq_true rfl, Nat.le_of_ble_eq_true rfl⟩) rfl rfl dX3_full_41 rfl rfl hl.1 (Nat.le_of_ble_eq_true rfl) ⟨Nat.le_of_ble_eq_true rfl, Nat.le_of_ble_eq_true rfl⟩ (fun z9 H locs h hP hD hS => ?_)
          try dsimp only at h hP hD
          refine lv_aload_n F.1 F.2.1 dX3_full_44 rfl (lv_at hl 0 rfl) ?_
          refine lv_iload_n F.1 F.2.1 dX3_full_45 rfl (lv_at hl 1 rfl) ?_
          refine lv_iload_n F.1 F.2.1 dX3_full_46 rfl (lv_at hl 2 rfl) ?_
          refine gc_VI (As := [.int (iI x1), .int (iI x2)]) (wn := fun u : MS => wGh cy aO aL aN aT aK aI o rw rf lg sg N u K I) F hK hA hP hD hS hP hD (fun u H1 _ h1 h2 => ⟨h1, h2⟩) (c_X3_fullest l D cy aO aL aN aT aK aI o rw rf lg sg N z9 K I x1 x2 _ h) (cwV 2 F.2.2.2.2 (gG_V k602 k604 k23 k61 k605) rfl rfl rfl hd_X3_fullest ⟨Nat.le_of_ble_eq_true rfl, Nat.le_of_ble_eq_true rfl⟩) rfl rfl dX3_full_47 rfl rfl hl.1 (Nat.le_of_ble_eq_true rfl) ⟨Nat.le_of_ble_eq_true rfl, Nat.le_of_ble_eq_true rfl⟩ (fun u11 z10 H locs h hP hD hS => ?_)
          try dsimp only at h hP hD
          exact ret u11 (rf, z10) H locs 50 ls h rfl hP hD hS dX3_full_50
        · have h := h.2 c8
          refine lv_aload_n F.1 F.2.1 dX3_full_33 rfl (lv_at hl 0 rfl) ?_
          refine gv_bipush F ⟨by decide, by decide⟩ dX3_full_34 ?_
          refine gc_VI (As := [.int (iI (-2))]) (wn := fun u : AR => wGh cy aO aL aN aT aK aI o rw u lg sg N T K I) F hK hA hP hD hS hP hD (fun u H1 _ h1 h2 => ⟨h1, h2⟩) (c_X3_refuse l D cy aO aL aN aT aK aI o rw rf lg sg N T K I (-2) _ h) (cwV 1 F.2.2.2.2 (gG_V k220 k222 k2 k61 k223) rfl rfl rfl hd_X3_refuse ⟨Nat.le_of_ble_eq_true rfl, Nat.le_of_ble_eq_true rfl⟩) rfl rfl dX3_full_36 rfl rfl hl.1 (Nat.le_of_ble_eq_true rfl) ⟨Nat.le_of_ble_eq_true rfl, Nat.le_of_ble_eq_true rfl⟩ (fun u13 z12 H locs h hP hD hS => ?_)
          try dsimp only at h hP hD
          exact ret u13 (z12, T) H locs 39 ls h rfl hP hD hS dX3_full_39
    · have h := h.2 c3
      refine lv_aload_n F.1 F.2.1 dX3_full_17 rfl (lv_at hl 0 rfl) ?_
      refine gv_bipush F ⟨by decide, by decide⟩ dX3_full_18 ?_
      refine gc_VI (As := [.int (iI (-6))]) (wn := fun u : AR => wGh cy aO aL aN aT aK aI o rw u lg sg N T K I) F hK hA hP hD hS hP hD (fun u H1 _ h1 h2 => ⟨h1, h2⟩) (c_X3_refuse l D cy aO aL aN aT aK aI o rw rf lg sg N T K I (-6) _ h) (cwV 1 F.2.2.2.2 (gG_V k220 k222 k2 k61 k223) rfl rfl rfl hd_X3_refuse ⟨Nat.le_of_ble_eq_true rfl, Nat.le_of_ble_eq_true rfl⟩) rfl rfl dX3_full_20 rfl rfl hl.1 (Nat.le_of_ble_eq_true rfl) ⟨Nat.le_of_ble_eq_true rfl, Nat.le_of_ble_eq_true rfl⟩ (fun u15 z14 H locs h hP hD hS => ?_)
      try dsimp only at h hP hD
      exact ret u15 (z14, T) H locs 23 ls h rfl hP hD hS dX3_full_23
  · have h := h.2 c2
    refine lv_aload_n F.1 F.2.1 dX3_full_4 rfl (lv_at hl 0 rfl) ?_
    refine gv_bipush F ⟨by decide, by decide⟩ dX3_full_5 ?_
    refine gc_VI (As := [.int (iI (-4))]) (wn := fun u : AR => wGh cy aO aL aN aT aK aI o rw u lg sg N T K I) F hK hA hP hD hS hP hD (fun u H1 _ h1 h2 => ⟨h1, h2⟩) (c_X3_refuse l D cy aO aL aN aT aK aI o rw rf lg sg N T K I (-4) _ h) (cwV 1 F.2.2.2.2 (gG_V k220 k222 k2 k61 k223) rfl rfl rfl hd_X3_refuse ⟨Nat.le_of_ble_eq_true rfl, Nat.le_of_ble_eq_true rfl⟩) rfl rfl dX3_full_7 rfl rfl hl.1 (Nat.le_of_ble_eq_true rfl) ⟨Nat.le_of_ble_eq_true rfl, Nat.le_of_ble_eq_true rfl⟩ (fun u17 z16 H locs h hP hD hS => ?_)
    try dsimp only at h hP hD
    exact ret u17 (z16, T) H locs 10 ls h rfl hP hD hS dX3_full_10
abbrev rX3_right : Room := { frames := 5, cells := 0, slots := 0, locals := 112 }
set_option maxHeartbeats 4000000 in
set_option maxRecDepth 20000 in
theorem c_X3_right (l : Launch) (D : va_G) (cy : ClassId) (aO : Nat → Nat) (aL : Nat → Nat) (aN : Nat → Nat) (aT : Nat → Nat) (aK : Nat → Nat) (aI : Nat → Nat) (o : AR) (rw : AR) (rf : AR) (lg : AR) (sg : AR) (N : MS) (T : MS) (K : MS) (I : MS) (x1 : Int) (Q : Int → AR → MS → Prop) (h : wX3_right rf N T x1 Q) : MetI l yX3_right (wT yX3_right cX3_right 2 (some .int)) rX3_right D cy [.ref (aO 0), .int (iI x1)] (wGh cy aO aL aN aT aK aI o rw rf lg sg N T K I) (fun u : AR × MS => wGh cy aO aL aN aT aK aI o rw u.1 lg sg N u.2 K I) (fun r u => Q r u.1 u.2) := by
  refine gI_I (by decide) (Nat.le_of_ble_eq_true rfl) ?_
  intro p e s m args below meth c A Qg F hK hA ret H locs ls hl hP hD hS
  have F : CallFix p m c cX3_right 2 s args gT RX3 := F
  have hl : lv_has ls 2 [(0, .ref (aO 0)), (1, .int (iI x1))] := hl
  refine lv_iload_n F.1 F.2.1 dX3_right_0 rfl (lv_at hl 1 rfl) ?_
  obtain ⟨g1, h⟩ := h
  refine gv_if_ge (tgt := 11) F g1 dX3_right_1 (by decide) (fun c2 => ?_) (fun c2 => ?_)
  · have h := h.1 c2
    refine lv_iload_n F.1 F.2.1 dX3_right_11 rfl (lv_at hl 1 rfl) ?_
    refine gv_bipush F ⟨by decide, by decide⟩ dX3_right_12 ?_
    refine gv_icmp_le (tgt := 24) F g1 ⟨by decide, by decide⟩ dX3_right_14 (by decide) (fun c3 => ?_) (fun c3 => ?_)
    · have h := h.1 c3
      refine lv_aload_n F.1 F.2.1 dX3_right_24 rfl (lv_at hl 0 rfl) ?_
      refine lv_iload_n F.1 F.2.1 dX3_right_25 rfl (lv_at hl 1 rfl) ?_
      refine gc_VV (As := [.int (iI x1)]) (wn := fun u : MS => wGh cy aO aL aN aT aK aI o rw rf lg sg N u K I) F hK hA hP hD hS hP hD (fun u H1 _ h1 h2 => ⟨h1, h2⟩) (c_X3_thinkAhead l D cy aO aL aN aT aK aI o rw rf lg sg N T K I x1 _ h) (cwV 1 F.2.2.2.2 (gG_V k535 k537 k18 k61 k538) rfl rfl rfl hd_X3_thinkAhead ⟨Nat.le_of_ble_eq_true rfl, Nat.le_of_ble_eq_true rfl⟩) rfl rfl dX3_right_26 rfl rfl hl.1 (Nat.le_of_ble_eq_true rfl) ⟨Nat.le_of_ble_eq_true rfl, Nat.le_of_ble_eq_true rfl⟩ (fun z4 H locs h hP hD hS => ?_)
      try dsimp only at h hP hD
      refine lv_aload_n F.1 F.2.1 dX3_right_29 rfl (lv_at hl 0 rfl) ?_
      refine gv_get F hin3 hK hP 0 rfl rfl 1 (by decide) k189 rfl dX3_right_30 ?_
      refine gc_VR (As := []) F hK hA hP hS (cp_gh_T hP) (c_X1_rightOfAll l D cy aT z4 _ h) (cwV 0 F.2.2.2.2 (gG_V k523 k524 k525 k62 k526) rfl rfl rfl hd_X1_rightOfAll ⟨Nat.le_of_ble_eq_true rfl, Nat.le_of_ble_eq_true rfl⟩) rfl rfl dX3_right_33 rfl rfl hl.1 (Nat.le_of_ble_eq_true rfl) ⟨Nat.le_of_ble_eq_true rfl, Nat.le_of_ble_eq_true rfl⟩ (fun u5 H locs h hP hS => ?_)
      exact ret u5 (rf, z4) H locs 36 ls h rfl hP hD hS dX3_right_36
    · have h := h.2 c3
      refine lv_aload_n F.1 F.2.1 dX3_right_17 rfl (lv_at hl 0 rfl) ?_
      refine gv_bipush F ⟨by decide, by decide⟩ dX3_right_18 ?_
      refine gc_VI (As := [.int (iI (-6))]) (wn := fun u : AR => wGh cy aO aL aN aT aK aI o rw u lg sg N T K I) F hK hA hP hD hS hP hD (fun u H1 _ h1 h2 => ⟨h1, h2⟩) (c_X3_refuse l D cy aO aL aN aT aK aI o rw rf lg sg N T K I (-6) _ h) (cwV 1 F.2.2.2.2 (gG_V k220 k222 k2 k61 k223) rfl rfl rfl hd_X3_refuse ⟨Nat.le_of_ble_eq_true rfl, Nat.le_of_ble_eq_true rfl⟩) rfl rfl dX3_right_20 rfl rfl hl.1 (Nat.le_of_ble_eq_true rfl) ⟨Nat.le_of_ble_eq_true rfl, Nat.le_of_ble_eq_true rfl⟩ (fun u7 z6 H locs h hP hD hS => ?_)
      try dsimp only at h hP hD
      exact ret u7 (z6, T) H locs 23 ls h rfl hP hD hS dX3_right_23
  · have h := h.2 c2
    refine lv_aload_n F.1 F.2.1 dX3_right_4 rfl (lv_at hl 0 rfl) ?_
    refine gv_bipush F ⟨by decide, by decide⟩ dX3_right_5 ?_
    refine gc_VI (As := [.int (iI (-4))]) (wn := fun u : AR => wGh cy aO aL aN aT aK aI o rw u lg sg N T K I) F hK hA hP hD hS hP hD (fun u H1 _ h1 h2 => ⟨h1, h2⟩) (c_X3_refuse l D cy aO aL aN aT aK aI o rw rf lg sg N T K I (-4) _ h) (cwV 1 F.2.2.2.2 (gG_V k220 k222 k2 k61 k223) rfl rfl rfl hd_X3_refuse ⟨Nat.le_of_ble_eq_true rfl, Nat.le_of_ble_eq_true rfl⟩) rfl rfl dX3_right_7 rfl rfl hl.1 (Nat.le_of_ble_eq_true rfl) ⟨Nat.le_of_ble_eq_true rfl, Nat.le_of_ble_eq_true rfl⟩ (fun u9 z8 H locs h hP hD hS => ?_)
    try dsimp only at h hP hD
    exact ret u9 (z8, T) H locs 10 ls h rfl hP hD hS dX3_right_10
abbrev rX3_soonestFirst : Room := { frames := 4, cells := 0, slots := 0, locals := 91 }
set_option maxHeartbeats 4000000 in
set_option maxRecDepth 20000 in
theorem c_X3_soonestFirst (l : Launch) (D : va_G) (cy : ClassId) (aO : Nat → Nat) (aL : Nat → Nat) (aN : Nat → Nat) (aT : Nat → Nat) (aK : Nat → Nat) (aI : Nat → Nat) (o : AR) (rw : AR) (rf : AR) (lg : AR) (sg : AR) (N : MS) (T : MS) (K : MS) (I : MS) (x1 : Int) (Q : Int → MS → Prop) (h : wX3_soonestFirst N T x1 Q) : MetI l yX3_soonestFirst (wT yX3_soonestFirst cX3_soonestFirst 6 (some .int)) rX3_soonestFirst D cy [.ref (aO 0), .int (iI x1)] (wGh cy aO aL aN aT aK aI o rw rf lg sg N T K I) (fun u : MS => wGh cy aO aL aN aT aK aI o rw rf lg sg N u K I) (fun r u => Q r u) := by
  refine gI_I (by decide) (Nat.le_of_ble_eq_true rfl) ?_
  intro p e s m args below meth c A Qg F hK hA ret H locs ls hl hP hD hS
  have F : CallFix p m c cX3_soonestFirst 6 s args gT RX3 := F
  have hl : lv_has ls 6 [(0, .ref (aO 0)), (1, .int (iI x1))] := hl
  have L9 : ∀ (n : Nat) (y1 : Int) (y2 : Int) (y3 : Int) (y4 : Int) (T : MS) (H : Heap) (locs : List Loc) (ls : Array Slot), wX3_soonestFirst_9 N Q n y1 y2 y3 y4 T → va_P D vwCl (wGh cy aO aL aN aT aK aI o rw rf lg sg N T K I) H → va_D A (wGh cy aO aL aN aT aK aI o rw rf lg sg N T K I) → va_S A s.heap H locs → lv_has ls 6 [(0, .ref (aO 0)), (1, .int (iI y1)), (2, .int (iI y2)), (3, .int (iI y3)), (4, .int (iI y4))] → W p l e rX3_soonestFirst s m args below meth c H locs 0 0 Qg (F0 m 9 ls []) := by
    intro  n
    induction n with
    | zero => intro _ _ _ _ _ _ _ _ h; exact h.elim
    | succ n ih =>
      intro y1 y2 y3 y4 T H locs ls h hP hD hS hl
      rw [wX3_soonestFirst_9_s] at h
      refine lv_iload F.1 F.2.1 dX3_soonestFirst_9 (lv_at hl 4 rfl) ?_
      refine gv_bipush F ⟨by decide, by decide⟩ dX3_soonestFirst_11 ?_
      obtain ⟨g1, h⟩ := h
      refine gv_icmp_ge (tgt := 56) F g1 ⟨by decide, by decide⟩ dX3_soonestFirst_13 (by decide) (fun c2 => ?_) (fun c2 => ?_)
      · have h := h.1 c2
        refine lv_iload_n F.1 F.2.1 dX3_soonestFirst_56 rfl (lv_at hl 2 rfl) ?_
        exact ret y2 T H locs 57 ls h rfl hP hD hS dX3_soonestFirst_57
      · have h := h.2 c2
        refine lv_aload_n F.1 F.2.1 dX3_soonestFirst_16 rfl (lv_at hl 0 rfl) ?_
        refine gc_VV (As := []) (wn := fun u : MS => wGh cy aO aL aN aT aK aI o rw rf lg sg N u K I) F hK hA hP hD hS hP hD (fun u H1 _ h1 h2 => ⟨h1, h2⟩) (c_X3_think l D cy aO aL aN aT aK aI o rw rf lg sg N T K I _ h) (cwV 0 F.2.2.2.2 (gG_V k539 k541 k19 k61 k542) rfl rfl rfl hd_X3_think ⟨Nat.le_of_ble_eq_true rfl, Nat.le_of_ble_eq_true rfl⟩) rfl rfl dX3_soonestFirst_17 rfl rfl hl.1 (Nat.le_of_ble_eq_true rfl) ⟨Nat.le_of_ble_eq_true rfl, Nat.le_of_ble_eq_true rfl⟩ (fun z3 H locs h hP hD hS => ?_)
        try dsimp only at h hP hD
        refine lv_aload_n F.1 F.2.1 dX3_soonestFirst_20 rfl (lv_at hl 0 rfl) ?_
        refine gv_get F hin3 hK hP 0 rfl rfl 1 (by decide) k189 rfl dX3_soonestFirst_21 ?_
        refine gv_get F hin1 hK (cp_gh_T hP) 0 rfl rfl 10 (by decide) k137 rfl dX3_soonestFirst_24 ?_
        refine lv_iload_n F.1 F.2.1 dX3_soonestFirst_27 rfl (lv_at hl 1 rfl) ?_
        refine lv_iload F.1 F.2.1 dX3_soonestFirst_28 (lv_at hl 4 rfl) ?_
        obtain ⟨g4, h⟩ := h
        obtain ⟨z5, ez5⟩ : ∃ z : MS, z = st z3 10 y1 y4 := ⟨_, rfl⟩
        have h := h z5 ez5
        refine gv_iast (n := 5) (g := (z3 10)) (ws' := wGh cy aO aL aN aT aK aI o rw rf lg sg N z5 K I) F hK hP hD hS 30 rfl rfl (by decide) g4 (by subst ez5; exact wGh_stT 10 (by decide) 5 rfl _ _) dX3_soonestFirst_30 (fun H locs hP hD hS => ?_)
        refine lv_aload_n F.1 F.2.1 dX3_soonestFirst_31 rfl (lv_at hl 0 rfl) ?_
        refine lv_iload_n F.1 F.2.1 dX3_soonestFirst_32 rfl (lv_at hl 1 rfl) ?_
        refine gc_VI (As := [.int (iI y1)]) (wn := fun u : MS => wGh cy aO aL aN aT aK aI o rw rf lg sg N u K I) F hK hA hP hD hS hP hD (fun u H1 _ h1 h2 => ⟨h1, h2⟩) (c_X3_minutesTillDone l D cy aO aL aN aT aK aI o rw rf lg sg N z5 K I y1 _ h) (cwV 1 F.2.2.2.2 (gG_V k564 k566 k20 k61 k567) rfl rfl rfl hd_X3_minutesTillDone ⟨Nat.le_of_ble_eq_true rfl, Nat.le_of_ble_eq_true rfl⟩) rfl rfl dX3_soonestFirst_33 rfl rfl hl.1 (Nat.le_of_ble_eq_true rfl) ⟨Nat.le_of_ble_eq_true rfl, Nat.le_of_ble_eq_true rfl⟩ (fun u7 z6 H locs h hP hD hS => ?_)
        try dsimp only at h hP hD
        refine lv_istore (lv' := [(5, .int (iI u7)), (0, .ref (aO 0)), (1, .int (iI y1)), (2, .int (iI y2)), (3, .int (iI y3)), (4, .int (iI y4))]) F.1 F.2.1 dX3_soonestFirst_36 hl (by decide) rfl (fun ls hl => ?_)
        refine lv_iload F.1 F.2.1 dX3_soonestFirst_38 (lv_at hl 0 rfl) ?_
        refine lv_iload_n F.1 F.2.1 dX3_soonestFirst_40 rfl (lv_at hl 4 rfl) ?_
        obtain ⟨g8, h⟩ := h
        obtain ⟨g9, h⟩ := h
        refine gv_icmp_ge (tgt := 50) F g8 g9 dX3_soonestFirst_41 (by decide) (fun c10 => ?_) (fun c10 => ?_)
        · have h := h.1 c10
          obtain ⟨v11, ev11⟩ : ∃ z : Int, z = y4 + 1 := ⟨_, rfl⟩
          have h := h v11 ev11
          refine gv_iinc (lv' := [(4, .int (iI v11)), (5, .int (iI u7)), (0, .ref (aO 0)), (1, .int (iI y1)), (2, .int (iI y2)), (3, .int (iI y3))]) F dX3_soonestFirst_50 hl (k := 5) rfl ev11 (by decide) rfl (fun ls hl => ?_)
          refine lv_goto (tgt := 9) F.1 F.2.1 dX3_soonestFirst_53 (by decide) ?_
          exact ih y1 y2 y3 v11 z6 H locs ls h hP hD hS (lv_sub hl [2, 3, 4, 5, 0] rfl)
        · have h := h.2 c10
          refine lv_iload F.1 F.2.1 dX3_soonestFirst_44 (lv_at hl 0 rfl) ?_
          refine lv_istore_n (lv' := [(3, .int (iI u7)), (5, .int (iI u7)), (0, .ref (aO 0)), (1, .int (iI y1)), (2, .int (iI y2)), (4, .int (iI y4))]) F.1 F.2.1 dX3_soonestFirst_46 rfl hl (by decide) rfl (fun ls hl => ?_)
          refine lv_iload F.1 F.2.1 dX3_soonestFirst_47 (lv_at hl 5 rfl) ?_
          refine lv_istore_n (lv' := [(2, .int (iI y4)), (3, .int (iI u7)), (5, .int (iI u7)), (0, .ref (aO 0)), (1, .int (iI y1)), (4, .int (iI y4))]) F.1 F.2.1 dX3_soonestFirst_49 rfl hl (by decide) rfl (fun ls hl => ?_)
          obtain ⟨v12, ev12⟩ : ∃ z : Int, z = y4 + 1 := ⟨_, rfl⟩
          have h := h v12 ev12
          refine gv_iinc (lv' := [(4, .int (iI v12)), (2, .int (iI y4)), (3, .int (iI u7)), (5, .int (iI u7)), (0, .ref (aO 0)), (1, .int (iI y1))]) F dX3_soonestFirst_50 hl (k := 5) rfl ev12 (by decide) rfl (fun ls hl => ?_)
          refine lv_goto (tgt := 9) F.1 F.2.1 dX3_soonestFirst_53 (by decide) ?_
          exact ih y1 y4 u7 v12 z6 H locs ls h hP hD hS (lv_sub hl [4, 5, 1, 2, 0] rfl)
  refine gv_bipush F ⟨by decide, by decide⟩ dX3_soonestFirst_0 ?_
  refine lv_istore_n (lv' := [(2, .int (iI (-9))), (0, .ref (aO 0)), (1, .int (iI x1))]) F.1 F.2.1 dX3_soonestFirst_2 rfl hl (by decide) rfl (fun ls hl => ?_)
  refine gv_bipush F ⟨by decide, by decide⟩ dX3_soonestFirst_3 ?_
  refine lv_istore_n (lv' := [(3, .int (iI 100)), (2, .int (iI (-9))), (0, .ref (aO 0)), (1, .int (iI x1))]) F.1 F.2.1 dX3_soonestFirst_5 rfl hl (by decide) rfl (fun ls hl => ?_)
  refine gv_iconst F dX3_soonestFirst_6 ?_
  refine lv_istore (lv' := [(4, .int (iI 0)), (3, .int (iI 100)), (2, .int (iI (-9))), (0, .ref (aO 0)), (1, .int (iI x1))]) F.1 F.2.1 dX3_soonestFirst_7 hl (by decide) rfl (fun ls hl => ?_)
  obtain ⟨n13, h⟩ := h
  exact L9 n13 x1 (-9) 100 0 T H locs ls h hP hD hS (lv_sub hl [3, 4, 2, 1, 0] rfl)
abbrev rX3_truestFirst : Room := { frames := 4, cells := 0, slots := 0, locals := 91 }
set_option maxHeartbeats 4000000 in
set_option maxRecDepth 20000 in
theorem c_X3_truestFirst (l : Launch) (D : va_G) (cy : ClassId) (aO : Nat → Nat) (aL : Nat → Nat) (aN : Nat → Nat) (aT : Nat → Nat) (aK : Nat → Nat) (aI : Nat → Nat) (o : AR) (rw : AR) (rf : AR) (lg : AR) (sg : AR) (N : MS) (T : MS) (K : MS) (I : MS) (x1 : Int) (Q : Int → MS → Prop) (h : wX3_truestFirst N T x1 Q) : MetI l yX3_truestFirst (wT yX3_truestFirst cX3_truestFirst 6 (some .int)) rX3_truestFirst D cy [.ref (aO 0), .int (iI x1)] (wGh cy aO aL aN aT aK aI o rw rf lg sg N T K I) (fun u : MS => wGh cy aO aL aN aT aK aI o rw rf lg sg N u K I) (fun r u => Q r u) := by
  refine gI_I (by decide) (Nat.le_of_ble_eq_true rfl) ?_
  intro p e s m args below meth c A Qg F hK hA ret H locs ls hl hP hD hS
  have F : CallFix p m c cX3_truestFirst 6 s args gT RX3 := F
  have hl : lv_has ls 6 [(0, .ref (aO 0)), (1, .int (iI x1))] := hl
  have L7 : ∀ (n : Nat) (y1 : Int) (y2 : Int) (y3 : Int) (y4 : Int) (T : MS) (H : Heap) (locs : List Loc) (ls : Array Slot), wX3_truestFirst_7 N Q n y1 y2 y3 y4 T → va_P D vwCl (wGh cy aO aL aN aT aK aI o rw rf lg sg N T K I) H → va_D A (wGh cy aO aL aN aT aK aI o rw rf lg sg N T K I) → va_S A s.heap H locs → lv_has ls 6 [(0, .ref (aO 0)), (1, .int (iI y1)), (2, .int (iI y2)), (3, .int (iI y3)), (4, .int (iI y4))] → W p l e rX3_truestFirst s m args below meth c H locs 0 0 Qg (F0 m 7 ls []) := by
    intro  n
    induction n with
    | zero => intro _ _ _ _ _ _ _ _ h; exact h.elim
    | succ n ih =>
      intro y1 y2 y3 y4 T H locs ls h hP hD hS hl
      rw [wX3_truestFirst_7_s] at h
      refine lv_iload F.1 F.2.1 dX3_truestFirst_7 (lv_at hl 4 rfl) ?_
      refine gv_bipush F ⟨by decide, by decide⟩ dX3_truestFirst_9 ?_
      obtain ⟨g1, h⟩ := h
      refine gv_icmp_ge (tgt := 66) F g1 ⟨by decide, by decide⟩ dX3_truestFirst_11 (by decide) (fun c2 => ?_) (fun c2 => ?_)
      · have h := h.1 c2
        refine lv_iload_n F.1 F.2.1 dX3_truestFirst_66 rfl (lv_at hl 2 rfl) ?_
        exact ret y2 T H locs 67 ls h rfl hP hD hS dX3_truestFirst_67
      · have h := h.2 c2
        refine lv_aload_n F.1 F.2.1 dX3_truestFirst_14 rfl (lv_at hl 0 rfl) ?_
        refine gc_VV (As := []) (wn := fun u : MS => wGh cy aO aL aN aT aK aI o rw rf lg sg N u K I) F hK hA hP hD hS hP hD (fun u H1 _ h1 h2 => ⟨h1, h2⟩) (c_X3_think l D cy aO aL aN aT aK aI o rw rf lg sg N T K I _ h) (cwV 0 F.2.2.2.2 (gG_V k539 k541 k19 k61 k542) rfl rfl rfl hd_X3_think ⟨Nat.le_of_ble_eq_true rfl, Nat.le_of_ble_eq_true rfl⟩) rfl rfl dX3_truestFirst_15 rfl rfl hl.1 (Nat.le_of_ble_eq_true rfl) ⟨Nat.le_of_ble_eq_true rfl, Nat.le_of_ble_eq_true rfl⟩ (fun z3 H locs h hP hD hS => ?_)
        try dsimp only at h hP hD
        refine lv_aload_n F.1 F.2.1 dX3_truestFirst_18 rfl (lv_at hl 0 rfl) ?_
        refine gv_get F hin3 hK hP 0 rfl rfl 1 (by decide) k189 rfl dX3_truestFirst_19 ?_
        refine gv_get F hin1 hK (cp_gh_T hP) 0 rfl rfl 10 (by decide) k137 rfl dX3_truestFirst_22 ?_
        refine lv_iload_n F.1 F.2.1 dX3_truestFirst_25 rfl (lv_at hl 1 rfl) ?_
        refine lv_iload F.1 F.2.1 dX3_truestFirst_26 (lv_at hl 4 rfl) ?_
        obtain ⟨g4, h⟩ := h
        obtain ⟨z5, ez5⟩ : ∃ z : MS, z = st z3 10 y1 y4 := ⟨_, rfl⟩
        have h := h z5 ez5
        refine gv_iast (n := 5) (g := (z3 10)) (ws' := wGh cy aO aL aN aT aK aI o rw rf lg sg N z5 K I) F hK hP hD hS 30 rfl rfl (by decide) g4 (by subst ez5; exact wGh_stT 10 (by decide) 5 rfl _ _) dX3_truestFirst_28 (fun H locs hP hD hS => ?_)
        refine lv_aload_n F.1 F.2.1 dX3_truestFirst_29 rfl (lv_at hl 0 rfl) ?_
        refine gv_get F hin3 hK hP 0 rfl rfl 1 (by decide) k189 rfl dX3_truestFirst_30 ?_
        refine gv_bipush F ⟨by decide, by decide⟩ dX3_truestFirst_33 ?_
        refine gc_VV (As := [.int (iI 99)]) (wn := fun u : MS => wGh cy aO aL aN aT aK aI o rw rf lg sg N u K I) F hK hA hP hD hS (cp_gh_T hP) (cd_gh_T hD) (fun u H1 hk h1 _ => cj_gh_T hP hD u H1 hk h1) (c_X1_passMinutes l D cy aT z5 99 _ h) (cwV 1 F.2.2.2.2 (gG_V k431 k432 k433 k62 k434) rfl rfl rfl hd_X1_passMinutes ⟨Nat.le_of_ble_eq_true rfl, Nat.le_of_ble_eq_true rfl⟩) rfl rfl dX3_truestFirst_35 rfl rfl hl.1 (Nat.le_of_ble_eq_true rfl) ⟨Nat.le_of_ble_eq_true rfl, Nat.le_of_ble_eq_true rfl⟩ (fun z6 H locs h hP hD hS => ?_)
        try dsimp only at h hP hD
        refine lv_aload_n F.1 F.2.1 dX3_truestFirst_38 rfl (lv_at hl 0 rfl) ?_
        refine gv_get F hin3 hK hP 0 rfl rfl 1 (by decide) k189 rfl dX3_truestFirst_39 ?_
        refine lv_iload_n F.1 F.2.1 dX3_truestFirst_42 rfl (lv_at hl 1 rfl) ?_
        refine gc_VR (As := [.int (iI y1)]) F hK hA hP hS (cp_gh_T hP) (c_X1_rightOf l D cy aT z6 y1 _ h) (cwV 1 F.2.2.2.2 (gG_V k551 k528 k529 k62 k530) rfl rfl rfl hd_X1_rightOf ⟨Nat.le_of_ble_eq_true rfl, Nat.le_of_ble_eq_true rfl⟩) rfl rfl dX3_truestFirst_43 rfl rfl hl.1 (Nat.le_of_ble_eq_true rfl) ⟨Nat.le_of_ble_eq_true rfl, Nat.le_of_ble_eq_true rfl⟩ (fun u7 H locs h hP hS => ?_)
        refine lv_istore (lv' := [(5, .int (iI u7)), (0, .ref (aO 0)), (1, .int (iI y1)), (2, .int (iI y2)), (3, .int (iI y3)), (4, .int (iI y4))]) F.1 F.2.1 dX3_truestFirst_46 hl (by decide) rfl (fun ls hl => ?_)
        refine lv_iload F.1 F.2.1 dX3_truestFirst_48 (lv_at hl 0 rfl) ?_
        refine lv_iload_n F.1 F.2.1 dX3_truestFirst_50 rfl (lv_at hl 4 rfl) ?_
        obtain ⟨g8, h⟩ := h
        obtain ⟨g9, h⟩ := h
        refine gv_icmp_le (tgt := 60) F g8 g9 dX3_truestFirst_51 (by decide) (fun c10 => ?_) (fun c10 => ?_)
        · have h := h.1 c10
          obtain ⟨v11, ev11⟩ : ∃ z : Int, z = y4 + 1 := ⟨_, rfl⟩
          have h := h v11 ev11
          refine gv_iinc (lv' := [(4, .int (iI v11)), (5, .int (iI u7)), (0, .ref (aO 0)), (1, .int (iI y1)), (2, .int (iI y2)), (3, .int (iI y3))]) F dX3_truestFirst_60 hl (k := 5) rfl ev11 (by decide) rfl (fun ls hl => ?_)
          refine lv_goto (tgt := 7) F.1 F.2.1 dX3_truestFirst_63 (by decide) ?_
          exact ih y1 y2 y3 v11 z6 H locs ls h hP hD hS (lv_sub hl [2, 3, 4, 5, 0] rfl)
        · have h := h.2 c10
          refine lv_iload F.1 F.2.1 dX3_truestFirst_54 (lv_at hl 0 rfl) ?_
          refine lv_istore_n (lv' := [(3, .int (iI u7)), (5, .int (iI u7)), (0, .ref (aO 0)), (1, .int (iI y1)), (2, .int (iI y2)), (4, .int (iI y4))]) F.1 F.2.1 dX3_truestFirst_56 rfl hl (by decide) rfl (fun ls hl => ?_)
          refine lv_iload F.1 F.2.1 dX3_truestFirst_57 (lv_at hl 5 rfl) ?_
          refine lv_istore_n (lv' := [(2, .int (iI y4)), (3, .int (iI u7)), (5, .int (iI u7)), (0, .ref (aO 0)), (1, .int (iI y1)), (4, .int (iI y4))]) F.1 F.2.1 dX3_truestFirst_59 rfl hl (by decide) rfl (fun ls hl => ?_)
          obtain ⟨v12, ev12⟩ : ∃ z : Int, z = y4 + 1 := ⟨_, rfl⟩
          have h := h v12 ev12
          refine gv_iinc (lv' := [(4, .int (iI v12)), (2, .int (iI y4)), (3, .int (iI u7)), (5, .int (iI u7)), (0, .ref (aO 0)), (1, .int (iI y1))]) F dX3_truestFirst_60 hl (k := 5) rfl ev12 (by decide) rfl (fun ls hl => ?_)
          refine lv_goto (tgt := 7) F.1 F.2.1 dX3_truestFirst_63 (by decide) ?_
          exact ih y1 y4 u7 v12 z6 H locs ls h hP hD hS (lv_sub hl [4, 5, 1, 2, 0] rfl)
  refine gv_iconst F dX3_truestFirst_0 ?_
  refine lv_istore_n (lv' := [(2, .int (iI 0)), (0, .ref (aO 0)), (1, .int (iI x1))]) F.1 F.2.1 dX3_truestFirst_1 rfl hl (by decide) rfl (fun ls hl => ?_)
  refine gv_iconst F dX3_truestFirst_2 ?_
  refine lv_istore_n (lv' := [(3, .int (iI (-1))), (2, .int (iI 0)), (0, .ref (aO 0)), (1, .int (iI x1))]) F.1 F.2.1 dX3_truestFirst_3 rfl hl (by decide) rfl (fun ls hl => ?_)
  refine gv_iconst F dX3_truestFirst_4 ?_
  refine lv_istore (lv' := [(4, .int (iI 0)), (3, .int (iI (-1))), (2, .int (iI 0)), (0, .ref (aO 0)), (1, .int (iI x1))]) F.1 F.2.1 dX3_truestFirst_5 hl (by decide) rfl (fun ls hl => ?_)
  obtain ⟨n13, h⟩ := h
  exact L7 n13 x1 0 (-1) 0 T H locs ls h hP hD hS (lv_sub hl [3, 4, 2, 1, 0] rfl)
abbrev rX3_bestFirst : Room := { frames := 5, cells := 0, slots := 0, locals := 116 }
set_option maxHeartbeats 4000000 in
set_option maxRecDepth 20000 in
theorem c_X3_bestFirst (l : Launch) (D : va_G) (cy : ClassId) (aO : Nat → Nat) (aL : Nat → Nat) (aN : Nat → Nat) (aT : Nat → Nat) (aK : Nat → Nat) (aI : Nat → Nat) (o : AR) (rw : AR) (rf : AR) (lg : AR) (sg : AR) (N : MS) (T : MS) (K : MS) (I : MS) (x1 x2 : Int) (Q : Int → AR → MS → Prop) (h : wX3_bestFirst rf N T x1 x2 Q) : MetI l yX3_bestFirst (wT yX3_bestFirst cX3_bestFirst 3 (some .int)) rX3_bestFirst D cy [.ref (aO 0), .int (iI x1), .int (iI x2)] (wGh cy aO aL aN aT aK aI o rw rf lg sg N T K I) (fun u : AR × MS => wGh cy aO aL aN aT aK aI o rw u.1 lg sg N u.2 K I) (fun r u => Q r u.1 u.2) := by
  refine gI_I (by decide) (Nat.le_of_ble_eq_true rfl) ?_
  intro p e s m args below meth c A Qg F hK hA ret H locs ls hl hP hD hS
  have F : CallFix p m c cX3_bestFirst 3 s args gT RX3 := F
  have hl : lv_has ls 3 [(0, .ref (aO 0)), (1, .int (iI x1)), (2, .int (iI x2))] := hl
  refine lv_aload_n F.1 F.2.1 dX3_bestFirst_0 rfl (lv_at hl 0 rfl) ?_
  refine lv_iload_n F.1 F.2.1 dX3_bestFirst_1 rfl (lv_at hl 1 rfl) ?_
  refine gc_VR (As := [.int (iI x1)]) F hK hA hP hS hP (c_X3_noGroup l D cy aO aL aN aT aK aI o rw rf lg sg N T K I x1 _ h) (cwV 1 F.2.2.2.2 (gG_V k407 k409 k10 k61 k410) rfl rfl rfl hd_X3_noGroup ⟨Nat.le_of_ble_eq_true rfl, Nat.le_of_ble_eq_true rfl⟩) rfl rfl dX3_bestFirst_2 rfl rfl hl.1 (Nat.le_of_ble_eq_true rfl) ⟨Nat.le_of_ble_eq_true rfl, Nat.le_of_ble_eq_true rfl⟩ (fun u1 H locs h hP hS => ?_)
  obtain ⟨bu1, h⟩ := h
  refine gv_if_eq (tgt := 14) F (gRb bu1) dX3_bestFirst_5 (by decide) (fun c2 => ?_) (fun c2 => ?_)
  · have h := h.1 c2
    refine lv_iload_n F.1 F.2.1 dX3_bestFirst_14 rfl (lv_at hl 2 rfl) ?_
    obtain ⟨g3, h⟩ := h
    refine gv_if_lt (tgt := 23) F g3 dX3_bestFirst_15 (by decide) (fun c4 => ?_) (fun c4 => ?_)
    · have h := h.1 c4
      refine lv_aload_n F.1 F.2.1 dX3_bestFirst_23 rfl (lv_at hl 0 rfl) ?_
      refine gv_bipush F ⟨by decide, by decide⟩ dX3_bestFirst_24 ?_
      refine gc_VI (As := [.int (iI (-2))]) (wn := fun u : AR => wGh cy aO aL aN aT aK aI o rw u lg sg N T K I) F hK hA hP hD hS hP hD (fun u H1 _ h1 h2 => ⟨h1, h2⟩) (c_X3_refuse l D cy aO aL aN aT aK aI o rw rf lg sg N T K I (-2) _ h) (cwV 1 F.2.2.2.2 (gG_V k220 k222 k2 k61 k223) rfl rfl rfl hd_X3_refuse ⟨Nat.le_of_ble_eq_true rfl, Nat.le_of_ble_eq_true rfl⟩) rfl rfl dX3_bestFirst_26 rfl rfl hl.1 (Nat.le_of_ble_eq_true rfl) ⟨Nat.le_of_ble_eq_true rfl, Nat.le_of_ble_eq_true rfl⟩ (fun u6 z5 H locs h hP hD hS => ?_)
      try dsimp only at h hP hD
      exact ret u6 (z5, T) H locs 29 ls h rfl hP hD hS dX3_bestFirst_29
    · have h := h.2 c4
      refine lv_iload_n F.1 F.2.1 dX3_bestFirst_18 rfl (lv_at hl 2 rfl) ?_
      refine gv_iconst F dX3_bestFirst_19 ?_
      refine gv_icmp_le (tgt := 30) F g3 ⟨by decide, by decide⟩ dX3_bestFirst_20 (by decide) (fun c7 => ?_) (fun c7 => ?_)
      · have h := h.1 c7
        refine lv_iload_n F.1 F.2.1 dX3_bestFirst_30 rfl (lv_at hl 2 rfl) ?_
        refine gv_if_ne (tgt := 42) F g3 dX3_bestFirst_31 (by decide) (fun c8 => ?_) (fun c8 => ?_)
        · have h := h.1 c8
          refine lv_aload_n F.1 F.2.1 dX3_bestFirst_42 rfl (lv_at hl 0 rfl) ?_
          refine lv_iload_n F.1 F.2.1 dX3_bestFirst_43 rfl (lv_at hl 1 rfl) ?_
          refine gc_VI (As := [.int (iI x1)]) (wn := fun u : MS => wGh cy aO aL aN aT aK aI o rw rf lg sg N u K I) F hK hA hP hD hS hP hD (fun u H1 _ h1 h2 => ⟨h1, h2⟩) (c_X3_truestFirst l D cy aO aL aN aT aK aI o rw rf lg sg N T K I x1 _ h) (cwV 1 F.2.2.2.2 (gG_V k622 k624 k25 k61 k625) rfl rfl rfl hd_X3_truestFirst ⟨Nat.le_of_ble_eq_true rfl, Nat.le_of_ble_eq_true rfl⟩) rfl rfl dX3_bestFirst_44 rfl rfl hl.1 (Nat.le_of_ble_eq_true rfl) ⟨Nat.le_of_ble_eq_true rfl, Nat.le_of_ble_eq_true rfl⟩ (fun u10 z9 H locs h hP hD hS => ?_)
          try dsimp only at h hP hD
          exact ret u10 (rf, z9) H locs 47 ls h rfl hP hD hS dX3_bestFirst_47
        · have h := h.2 c8
          refine lv_aload_n F.1 F.2.1 dX3_bestFirst_34 rfl (lv_at hl 0 rfl) ?_
          refine lv_iload_n F.1 F.2.1 dX3_bestFirst_35 rfl (lv_at hl 1 rfl) ?_
          refine gc_VI (As := [.int (iI x1)]) (wn := fun u : MS => wGh cy aO aL aN aT aK aI o rw rf lg sg N u K I) F hK hA hP hD hS hP hD (fun u H1 _ h1 h2 => ⟨h1, h2⟩) (c_X3_soonestFirst l D cy aO aL aN aT aK aI o rw rf lg sg N T K I x1 _ h) (cwV 1 F.2.2.2.2 (gG_V k618 k620 k24 k61 k621) rfl rfl rfl hd_X3_soonestFirst ⟨Nat.le_of_ble_eq_true rfl, Nat.le_of_ble_eq_true rfl⟩) rfl rfl dX3_bestFirst_36 rfl rfl hl.1 (Nat.le_of_ble_eq_true rfl) ⟨Nat.le_of_ble_eq_true rfl, Nat.le_of_ble_eq_true rfl⟩ (fun u12 z11 H locs h hP hD hS => ?_)
          try dsimp only at h hP hD
          refine lv_goto (tgt := 47) F.1 F.2.1 dX3_bestFirst_39 (by decide) ?_
          exact ret u12 (rf, z11) H locs 47 ls h rfl hP hD hS dX3_bestFirst_47
      · have h := h.2 c7
        refine lv_aload_n F.1 F.2.1 dX3_bestFirst_23 rfl (lv_at hl 0 rfl) ?_
        refine gv_bipush F ⟨by decide, by decide⟩ dX3_bestFirst_24 ?_
        refine gc_VI (As := [.int (iI (-2))]) (wn := fun u : AR => wGh cy aO aL aN aT aK aI o rw u lg sg N T K I) F hK hA hP hD hS hP hD (fun u H1 _ h1 h2 => ⟨h1, h2⟩) (c_X3_refuse l D cy aO aL aN aT aK aI o rw rf lg sg N T K I (-2) _ h) (cwV 1 F.2.2.2.2 (gG_V k220 k222 k2 k61 k223) rfl rfl rfl hd_X3_refuse ⟨Nat.le_of_ble_eq_true rfl, Nat.le_of_ble_eq_true rfl⟩) rfl rfl dX3_bestFirst_26 rfl rfl hl.1 (Nat.le_of_ble_eq_true rfl) ⟨Nat.le_of_ble_eq_true rfl, Nat.le_of_ble_eq_true rfl⟩ (fun u14 z13 H locs h hP hD hS => ?_)
        try dsimp only at h hP hD
        exact ret u14 (z13, T) H locs 29 ls h rfl hP hD hS dX3_bestFirst_29
  · have h := h.2 c2
    refine lv_aload_n F.1 F.2.1 dX3_bestFirst_8 rfl (lv_at hl 0 rfl) ?_
    refine gv_iconst F dX3_bestFirst_9 ?_
    refine gc_VI (As := [.int (iI (-1))]) (wn := fun u : AR => wGh cy aO aL aN aT aK aI o rw u lg sg N T K I) F hK hA hP hD hS hP hD (fun u H1 _ h1 h2 => ⟨h1, h2⟩) (c_X3_refuse l D cy aO aL aN aT aK aI o rw rf lg sg N T K I (-1) _ h) (cwV 1 F.2.2.2.2 (gG_V k220 k222 k2 k61 k223) rfl rfl rfl hd_X3_refuse ⟨Nat.le_of_ble_eq_true rfl, Nat.le_of_ble_eq_true rfl⟩) rfl rfl dX3_bestFirst_10 rfl rfl hl.1 (Nat.le_of_ble_eq_true rfl) ⟨Nat.le_of_ble_eq_true rfl, Nat.le_of_ble_eq_true rfl⟩ (fun u16 z15 H locs h hP hD hS => ?_)
    try dsimp only at h hP hD
    exact ret u16 (z15, T) H locs 13 ls h rfl hP hD hS dX3_bestFirst_13
abbrev rX3_firstIn : Room := { frames := 0, cells := 0, slots := 0, locals := 0 }
set_option maxHeartbeats 4000000 in
set_option maxRecDepth 20000 in
theorem c_X3_firstIn (l : Launch) (D : va_G) (cy : ClassId) (aO : Nat → Nat) (aL : Nat → Nat) (aN : Nat → Nat) (aT : Nat → Nat) (aK : Nat → Nat) (aI : Nat → Nat) (o : AR) (rw : AR) (rf : AR) (lg : AR) (sg : AR) (N : MS) (T : MS) (K : MS) (I : MS) (x1 x2 : Int) (Q : Int → Prop) (h : wX3_firstIn N x1 x2 Q) : MetR l yX3_firstIn (wT yX3_firstIn cX3_firstIn 3 (some .int)) rX3_firstIn D cy [.ref (aO 0), .int (iI x1), .int (iI x2)] (wGh cy aO aL aN aT aK aI o rw rf lg sg N T K I) Q := by
  refine gI_R (by decide) (Nat.le_of_ble_eq_true rfl) ?_
  intro p e s m args below meth c A Qg F hK hA ret H locs ls hl hP hS
  have F : CallFix p m c cX3_firstIn 3 s args gT RX3 := F
  have hl : lv_has ls 3 [(0, .ref (aO 0)), (1, .int (iI x1)), (2, .int (iI x2))] := hl
  refine lv_iload_n F.1 F.2.1 dX3_firstIn_0 rfl (lv_at hl 1 rfl) ?_
  refine gv_iconst F dX3_firstIn_1 ?_
  refine lv_aload_n F.1 F.2.1 dX3_firstIn_2 rfl (lv_at hl 0 rfl) ?_
  refine gv_get F hin3 hK hP 0 rfl rfl 0 (by decide) k188 rfl dX3_firstIn_3 ?_
  refine gv_get F hin1 hK (cp_gh_N hP) 0 rfl rfl 7 (by decide) k131 rfl dX3_firstIn_6 ?_
  refine gv_iconst F dX3_firstIn_9 ?_
  refine gv_isub F dX3_firstIn_10 ?_
  refine lv_iload_n F.1 F.2.1 dX3_firstIn_11 rfl (lv_at hl 2 rfl) ?_
  refine gv_isub F dX3_firstIn_12 ?_
  refine gv_imul F dX3_firstIn_13 ?_
  obtain ⟨g1, h⟩ := h
  obtain ⟨g2, h⟩ := h
  refine gv_ishr F g1 g2 dX3_firstIn_14 ?_
  refine gv_bipush F ⟨by decide, by decide⟩ dX3_firstIn_15 ?_
  refine gv_iand F 3 (by decide) (by decide) dX3_firstIn_17 ?_
  exact ret ((x1 / 2 ^ ((3 * (((N 0 7) - 1) - x2)) : Int).toNat) % (7 + 1)) H locs 18 ls h rfl hS dX3_firstIn_18
abbrev rX3_fullestWith : Room := { frames := 4, cells := 0, slots := 0, locals := 97 }
set_option maxHeartbeats 4000000 in
set_option maxRecDepth 20000 in
theorem c_X3_fullestWith (l : Launch) (D : va_G) (cy : ClassId) (aO : Nat → Nat) (aL : Nat → Nat) (aN : Nat → Nat) (aT : Nat → Nat) (aK : Nat → Nat) (aI : Nat → Nat) (o : AR) (rw : AR) (rf : AR) (lg : AR) (sg : AR) (N : MS) (T : MS) (K : MS) (I : MS) (x1 : Int) (Q : Int → MS → Prop) (h : wX3_fullestWith N T x1 Q) : MetI l yX3_fullestWith (wT yX3_fullestWith cX3_fullestWith 3 (some .int)) rX3_fullestWith D cy [.ref (aO 0), .int (iI x1)] (wGh cy aO aL aN aT aK aI o rw rf lg sg N T K I) (fun u : MS => wGh cy aO aL aN aT aK aI o rw rf lg sg N u K I) (fun r u => Q r u) := by
  refine gI_I (by decide) (Nat.le_of_ble_eq_true rfl) ?_
  intro p e s m args below meth c A Qg F hK hA ret H locs ls hl hP hD hS
  have F : CallFix p m c cX3_fullestWith 3 s args gT RX3 := F
  have hl : lv_has ls 3 [(0, .ref (aO 0)), (1, .int (iI x1))] := hl
  have L6 : ∀ (n : Nat) (y1 : Int) (y2 : Int) (T : MS) (H : Heap) (locs : List Loc) (ls : Array Slot), wX3_fullestWith_6 N Q n y1 y2 T → va_P D vwCl (wGh cy aO aL aN aT aK aI o rw rf lg sg N T K I) H → va_D A (wGh cy aO aL aN aT aK aI o rw rf lg sg N T K I) → va_S A s.heap H locs → lv_has ls 3 [(0, .ref (aO 0)), (1, .int (iI y1)), (2, .int (iI y2))] → W p l e rX3_fullestWith s m args below meth c H locs 0 0 Qg (F0 m 6 ls []) := by
    intro  n
    induction n with
    | zero => intro _ _ _ _ _ _ h; exact h.elim
    | succ n ih =>
      intro y1 y2 T H locs ls h hP hD hS hl
      rw [wX3_fullestWith_6_s] at h
      refine lv_iload_n F.1 F.2.1 dX3_fullestWith_6 rfl (lv_at hl 2 rfl) ?_
      refine lv_aload_n F.1 F.2.1 dX3_fullestWith_7 rfl (lv_at hl 0 rfl) ?_
      refine gv_get F hin3 hK hP 0 rfl rfl 1 (by decide) k189 rfl dX3_fullestWith_8 ?_
      refine gv_get F hin1 hK (cp_gh_T hP) 0 rfl rfl 7 (by decide) k131 rfl dX3_fullestWith_11 ?_
      obtain ⟨g1, h⟩ := h
      obtain ⟨g2, h⟩ := h
      refine gv_icmp_ge (tgt := 38) F g1 g2 dX3_fullestWith_14 (by decide) (fun c3 => ?_) (fun c3 => ?_)
      · have h := h.1 c3
        refine lv_aload_n F.1 F.2.1 dX3_fullestWith_38 rfl (lv_at hl 0 rfl) ?_
        refine gv_bipush F ⟨by decide, by decide⟩ dX3_fullestWith_39 ?_
        refine gv_iconst F dX3_fullestWith_41 ?_
        refine gc_VI (As := [.int (iI 30), .int (iI 0)]) (wn := fun u : MS => wGh cy aO aL aN aT aK aI o rw rf lg sg N u K I) F hK hA hP hD hS hP hD (fun u H1 _ h1 h2 => ⟨h1, h2⟩) (c_X3_fullest l D cy aO aL aN aT aK aI o rw rf lg sg N T K I 30 0 _ h) (cwV 2 F.2.2.2.2 (gG_V k602 k604 k23 k61 k605) rfl rfl rfl hd_X3_fullest ⟨Nat.le_of_ble_eq_true rfl, Nat.le_of_ble_eq_true rfl⟩) rfl rfl dX3_fullestWith_42 rfl rfl hl.1 (Nat.le_of_ble_eq_true rfl) ⟨Nat.le_of_ble_eq_true rfl, Nat.le_of_ble_eq_true rfl⟩ (fun u5 z4 H locs h hP hD hS => ?_)
        try dsimp only at h hP hD
        exact ret u5 z4 H locs 45 ls h rfl hP hD hS dX3_fullestWith_45
      · have h := h.2 c3
        refine lv_aload_n F.1 F.2.1 dX3_fullestWith_17 rfl (lv_at hl 0 rfl) ?_
        refine gv_get F hin3 hK hP 0 rfl rfl 1 (by decide) k189 rfl dX3_fullestWith_18 ?_
        refine gv_get F hin1 hK (cp_gh_T hP) 0 rfl rfl 10 (by decide) k137 rfl dX3_fullestWith_21 ?_
        refine lv_iload_n F.1 F.2.1 dX3_fullestWith_24 rfl (lv_at hl 2 rfl) ?_
        refine lv_aload_n F.1 F.2.1 dX3_fullestWith_25 rfl (lv_at hl 0 rfl) ?_
        refine lv_iload_n F.1 F.2.1 dX3_fullestWith_26 rfl (lv_at hl 1 rfl) ?_
        refine lv_iload_n F.1 F.2.1 dX3_fullestWith_27 rfl (lv_at hl 2 rfl) ?_
        refine gc_VR (As := [.int (iI y1), .int (iI y2)]) F hK hA hP hS hP (c_X3_firstIn l D cy aO aL aN aT aK aI o rw rf lg sg N T K I y1 y2 _ h) (cwV 2 F.2.2.2.2 (gG_V k638 k640 k28 k61 k641) rfl rfl rfl hd_X3_firstIn ⟨Nat.le_of_ble_eq_true rfl, Nat.le_of_ble_eq_true rfl⟩) rfl rfl dX3_fullestWith_28 rfl rfl hl.1 (Nat.le_of_ble_eq_true rfl) ⟨Nat.le_of_ble_eq_true rfl, Nat.le_of_ble_eq_true rfl⟩ (fun u6 H locs h hP hS => ?_)
        obtain ⟨g7, h⟩ := h
        obtain ⟨z8, ez8⟩ : ∃ z : MS, z = st T 10 y2 u6 := ⟨_, rfl⟩
        have h := h z8 ez8
        refine gv_iast (n := 5) (g := (T 10)) (ws' := wGh cy aO aL aN aT aK aI o rw rf lg sg N z8 K I) F hK hP hD hS 30 rfl rfl (by decide) g7 (by subst ez8; exact wGh_stT 10 (by decide) 5 rfl _ _) dX3_fullestWith_31 (fun H locs hP hD hS => ?_)
        obtain ⟨v9, ev9⟩ : ∃ z : Int, z = y2 + 1 := ⟨_, rfl⟩
        have h := h v9 ev9
        refine gv_iinc (lv' := [(2, .int (iI v9)), (0, .ref (aO 0)), (1, .int (iI y1))]) F dX3_fullestWith_32 hl (k := 2) rfl ev9 (by decide) rfl (fun ls hl => ?_)
        refine lv_goto (tgt := 6) F.1 F.2.1 dX3_fullestWith_35 (by decide) ?_
        exact ih y1 v9 z8 H locs ls h hP hD hS (lv_sub hl [1, 2, 0] rfl)
  refine lv_aload_n F.1 F.2.1 dX3_fullestWith_0 rfl (lv_at hl 0 rfl) ?_
  refine gc_VV (As := []) (wn := fun u : MS => wGh cy aO aL aN aT aK aI o rw rf lg sg N u K I) F hK hA hP hD hS hP hD (fun u H1 _ h1 h2 => ⟨h1, h2⟩) (c_X3_think l D cy aO aL aN aT aK aI o rw rf lg sg N T K I _ h) (cwV 0 F.2.2.2.2 (gG_V k539 k541 k19 k61 k542) rfl rfl rfl hd_X3_think ⟨Nat.le_of_ble_eq_true rfl, Nat.le_of_ble_eq_true rfl⟩) rfl rfl dX3_fullestWith_1 rfl rfl hl.1 (Nat.le_of_ble_eq_true rfl) ⟨Nat.le_of_ble_eq_true rfl, Nat.le_of_ble_eq_true rfl⟩ (fun z10 H locs h hP hD hS => ?_)
  try dsimp only at h hP hD
  refine gv_iconst F dX3_fullestWith_4 ?_
  refine lv_istore_n (lv' := [(2, .int (iI 0)), (0, .ref (aO 0)), (1, .int (iI x1))]) F.1 F.2.1 dX3_fullestWith_5 rfl hl (by decide) rfl (fun ls hl => ?_)
  obtain ⟨n11, h⟩ := h
  exact L6 n11 x1 0 z10 H locs ls h hP hD hS (lv_sub hl [1, 2, 0] rfl)
abbrev rX3_firstsApart : Room := { frames := 5, cells := 0, slots := 0, locals := 119 }
set_option maxHeartbeats 4000000 in
set_option maxRecDepth 20000 in
theorem c_X3_firstsApart (l : Launch) (D : va_G) (cy : ClassId) (aO : Nat → Nat) (aL : Nat → Nat) (aN : Nat → Nat) (aT : Nat → Nat) (aK : Nat → Nat) (aI : Nat → Nat) (o : AR) (rw : AR) (rf : AR) (lg : AR) (sg : AR) (N : MS) (T : MS) (K : MS) (I : MS) (Q : Int → MS → Prop) (h : wX3_firstsApart N T Q) : MetI l yX3_firstsApart (wT yX3_firstsApart cX3_firstsApart 7 (some .int)) rX3_firstsApart D cy [.ref (aO 0)] (wGh cy aO aL aN aT aK aI o rw rf lg sg N T K I) (fun u : MS => wGh cy aO aL aN aT aK aI o rw rf lg sg N u K I) (fun r u => Q r u) := by
  refine gI_I (by decide) (Nat.le_of_ble_eq_true rfl) ?_
  intro p e s m args below meth c A Qg F hK hA ret H locs ls hl hP hD hS
  have F : CallFix p m c cX3_firstsApart 7 s args gT RX3 := F
  have hl : lv_has ls 7 [(0, .ref (aO 0))] := hl
  have L35 : ∀ (n : Nat) (y1 : Int) (y2 : Int) (y3 : Int) (y4 : Int) (y5 : Int) (T : MS) (H : Heap) (locs : List Loc) (ls : Array Slot), wX3_firstsApart_35 N Q n y1 y2 y3 y4 y5 T → va_P D vwCl (wGh cy aO aL aN aT aK aI o rw rf lg sg N T K I) H → va_D A (wGh cy aO aL aN aT aK aI o rw rf lg sg N T K I) → va_S A s.heap H locs → lv_has ls 7 [(0, .ref (aO 0)), (1, .int (iI y1)), (2, .int (iI y2)), (3, .int (iI y3)), (4, .int (iI y4)), (5, .int (iI y5))] → W p l e rX3_firstsApart s m args below meth c H locs 0 0 Qg (F0 m 35 ls []) := by
    intro  n
    induction n with
    | zero => intro _ _ _ _ _ _ _ _ _ h; exact h.elim
    | succ n ih =>
      intro y1 y2 y3 y4 y5 T H locs ls h hP hD hS hl
      rw [wX3_firstsApart_35_s] at h
      refine lv_iload F.1 F.2.1 dX3_firstsApart_35 (lv_at hl 5 rfl) ?_
      refine lv_iload F.1 F.2.1 dX3_firstsApart_37 (lv_at hl 4 rfl) ?_
      obtain ⟨g1, h⟩ := h
      obtain ⟨g2, h⟩ := h
      refine gv_icmp_ge (tgt := 73) F g1 g2 dX3_firstsApart_39 (by decide) (fun c3 => ?_) (fun c3 => ?_)
      · have h := h.1 c3
        refine lv_iload_n F.1 F.2.1 dX3_firstsApart_73 rfl (lv_at hl 2 rfl) ?_
        exact ret y2 T H locs 74 ls h rfl hP hD hS dX3_firstsApart_74
      · have h := h.2 c3
        refine lv_iload_n F.1 F.2.1 dX3_firstsApart_42 rfl (lv_at hl 3 rfl) ?_
        refine lv_iload_n F.1 F.2.1 dX3_firstsApart_43 rfl (lv_at hl 1 rfl) ?_
        obtain ⟨g4, h⟩ := h
        obtain ⟨g5, h⟩ := h
        refine gv_icmp_le (tgt := 73) F g4 g5 dX3_firstsApart_44 (by decide) (fun c6 => ?_) (fun c6 => ?_)
        · have h := h.1 c6
          refine lv_iload_n F.1 F.2.1 dX3_firstsApart_73 rfl (lv_at hl 2 rfl) ?_
          exact ret y2 T H locs 74 ls h rfl hP hD hS dX3_firstsApart_74
        · have h := h.2 c6
          refine lv_aload_n F.1 F.2.1 dX3_firstsApart_47 rfl (lv_at hl 0 rfl) ?_
          refine lv_iload F.1 F.2.1 dX3_firstsApart_48 (lv_at hl 5 rfl) ?_
          refine gc_VI (As := [.int (iI y5)]) (wn := fun u : MS => wGh cy aO aL aN aT aK aI o rw rf lg sg N u K I) F hK hA hP hD hS hP hD (fun u H1 _ h1 h2 => ⟨h1, h2⟩) (c_X3_fullestWith l D cy aO aL aN aT aK aI o rw rf lg sg N T K I y5 _ h) (cwV 1 F.2.2.2.2 (gG_V k634 k636 k27 k61 k637) rfl rfl rfl hd_X3_fullestWith ⟨Nat.le_of_ble_eq_true rfl, Nat.le_of_ble_eq_true rfl⟩) rfl rfl dX3_firstsApart_50 rfl rfl hl.1 (Nat.le_of_ble_eq_true rfl) ⟨Nat.le_of_ble_eq_true rfl, Nat.le_of_ble_eq_true rfl⟩ (fun u8 z7 H locs h hP hD hS => ?_)
          try dsimp only at h hP hD
          refine lv_istore (lv' := [(6, .int (iI u8)), (0, .ref (aO 0)), (1, .int (iI y1)), (2, .int (iI y2)), (3, .int (iI y3)), (4, .int (iI y4)), (5, .int (iI y5))]) F.1 F.2.1 dX3_firstsApart_53 hl (by decide) rfl (fun ls hl => ?_)
          refine lv_iload F.1 F.2.1 dX3_firstsApart_55 (lv_at hl 0 rfl) ?_
          refine lv_iload_n F.1 F.2.1 dX3_firstsApart_57 rfl (lv_at hl 4 rfl) ?_
          obtain ⟨g9, h⟩ := h
          refine gv_icmp_ge (tgt := 67) F g9 g4 dX3_firstsApart_58 (by decide) (fun c10 => ?_) (fun c10 => ?_)
          · have h := h.1 c10
            obtain ⟨v11, ev11⟩ : ∃ z : Int, z = y5 + 1 := ⟨_, rfl⟩
            have h := h v11 ev11
            refine gv_iinc (lv' := [(5, .int (iI v11)), (6, .int (iI u8)), (0, .ref (aO 0)), (1, .int (iI y1)), (2, .int (iI y2)), (3, .int (iI y3)), (4, .int (iI y4))]) F dX3_firstsApart_67 hl (k := 6) rfl ev11 (by decide) rfl (fun ls hl => ?_)
            refine lv_goto (tgt := 35) F.1 F.2.1 dX3_firstsApart_70 (by decide) ?_
            exact ih y1 y2 y3 y4 v11 z7 H locs ls h hP hD hS (lv_sub hl [2, 3, 4, 5, 6, 0] rfl)
          · have h := h.2 c10
            refine lv_iload F.1 F.2.1 dX3_firstsApart_61 (lv_at hl 0 rfl) ?_
            refine lv_istore_n (lv' := [(3, .int (iI u8)), (6, .int (iI u8)), (0, .ref (aO 0)), (1, .int (iI y1)), (2, .int (iI y2)), (4, .int (iI y4)), (5, .int (iI y5))]) F.1 F.2.1 dX3_firstsApart_63 rfl hl (by decide) rfl (fun ls hl => ?_)
            refine lv_iload F.1 F.2.1 dX3_firstsApart_64 (lv_at hl 6 rfl) ?_
            refine lv_istore_n (lv' := [(2, .int (iI y5)), (3, .int (iI u8)), (6, .int (iI u8)), (0, .ref (aO 0)), (1, .int (iI y1)), (4, .int (iI y4)), (5, .int (iI y5))]) F.1 F.2.1 dX3_firstsApart_66 rfl hl (by decide) rfl (fun ls hl => ?_)
            obtain ⟨v12, ev12⟩ : ∃ z : Int, z = y5 + 1 := ⟨_, rfl⟩
            have h := h v12 ev12
            refine gv_iinc (lv' := [(5, .int (iI v12)), (2, .int (iI y5)), (3, .int (iI u8)), (6, .int (iI u8)), (0, .ref (aO 0)), (1, .int (iI y1)), (4, .int (iI y4))]) F dX3_firstsApart_67 hl (k := 6) rfl ev12 (by decide) rfl (fun ls hl => ?_)
            refine lv_goto (tgt := 35) F.1 F.2.1 dX3_firstsApart_70 (by decide) ?_
            exact ih y1 y5 u8 y4 v12 z7 H locs ls h hP hD hS (lv_sub hl [4, 5, 1, 2, 6, 0] rfl)
  refine lv_aload_n F.1 F.2.1 dX3_firstsApart_0 rfl (lv_at hl 0 rfl) ?_
  refine gc_VV (As := []) (wn := fun u : MS => wGh cy aO aL aN aT aK aI o rw rf lg sg N u K I) F hK hA hP hD hS hP hD (fun u H1 _ h1 h2 => ⟨h1, h2⟩) (c_X3_think l D cy aO aL aN aT aK aI o rw rf lg sg N T K I _ h) (cwV 0 F.2.2.2.2 (gG_V k539 k541 k19 k61 k542) rfl rfl rfl hd_X3_think ⟨Nat.le_of_ble_eq_true rfl, Nat.le_of_ble_eq_true rfl⟩) rfl rfl dX3_firstsApart_1 rfl rfl hl.1 (Nat.le_of_ble_eq_true rfl) ⟨Nat.le_of_ble_eq_true rfl, Nat.le_of_ble_eq_true rfl⟩ (fun z13 H locs h hP hD hS => ?_)
  try dsimp only at h hP hD
  refine lv_aload_n F.1 F.2.1 dX3_firstsApart_4 rfl (lv_at hl 0 rfl) ?_
  refine gv_iconst F dX3_firstsApart_5 ?_
  refine gv_iconst F dX3_firstsApart_6 ?_
  refine gc_VI (As := [.int (iI 0), .int (iI 0)]) (wn := fun u : MS => wGh cy aO aL aN aT aK aI o rw rf lg sg N u K I) F hK hA hP hD hS hP hD (fun u H1 _ h1 h2 => ⟨h1, h2⟩) (c_X3_fullest l D cy aO aL aN aT aK aI o rw rf lg sg N z13 K I 0 0 _ h) (cwV 2 F.2.2.2.2 (gG_V k602 k604 k23 k61 k605) rfl rfl rfl hd_X3_fullest ⟨Nat.le_of_ble_eq_true rfl, Nat.le_of_ble_eq_true rfl⟩) rfl rfl dX3_firstsApart_7 rfl rfl hl.1 (Nat.le_of_ble_eq_true rfl) ⟨Nat.le_of_ble_eq_true rfl, Nat.le_of_ble_eq_true rfl⟩ (fun u15 z14 H locs h hP hD hS => ?_)
  try dsimp only at h hP hD
  refine lv_istore_n (lv' := [(1, .int (iI u15)), (0, .ref (aO 0))]) F.1 F.2.1 dX3_firstsApart_10 rfl hl (by decide) rfl (fun ls hl => ?_)
  refine gv_iconst F dX3_firstsApart_11 ?_
  refine lv_istore_n (lv' := [(2, .int (iI 0)), (1, .int (iI u15)), (0, .ref (aO 0))]) F.1 F.2.1 dX3_firstsApart_12 rfl hl (by decide) rfl (fun ls hl => ?_)
  refine lv_aload_n F.1 F.2.1 dX3_firstsApart_13 rfl (lv_at hl 2 rfl) ?_
  refine gv_iconst F dX3_firstsApart_14 ?_
  refine gc_VI (As := [.int (iI 0)]) (wn := fun u : MS => wGh cy aO aL aN aT aK aI o rw rf lg sg N u K I) F hK hA hP hD hS hP hD (fun u H1 _ h1 h2 => ⟨h1, h2⟩) (c_X3_fullestWith l D cy aO aL aN aT aK aI o rw rf lg sg N z14 K I 0 _ h) (cwV 1 F.2.2.2.2 (gG_V k634 k636 k27 k61 k637) rfl rfl rfl hd_X3_fullestWith ⟨Nat.le_of_ble_eq_true rfl, Nat.le_of_ble_eq_true rfl⟩) rfl rfl dX3_firstsApart_15 rfl rfl hl.1 (Nat.le_of_ble_eq_true rfl) ⟨Nat.le_of_ble_eq_true rfl, Nat.le_of_ble_eq_true rfl⟩ (fun u17 z16 H locs h hP hD hS => ?_)
  try dsimp only at h hP hD
  refine lv_istore_n (lv' := [(3, .int (iI u17)), (2, .int (iI 0)), (1, .int (iI u15)), (0, .ref (aO 0))]) F.1 F.2.1 dX3_firstsApart_18 rfl hl (by decide) rfl (fun ls hl => ?_)
  refine gv_iconst F dX3_firstsApart_19 ?_
  refine gv_iconst F dX3_firstsApart_20 ?_
  refine lv_aload_n F.1 F.2.1 dX3_firstsApart_21 rfl (lv_at hl 3 rfl) ?_
  refine gv_get F hin3 hK hP 0 rfl rfl 0 (by decide) k188 rfl dX3_firstsApart_22 ?_
  refine gv_get F hin1 hK (cp_gh_N hP) 0 rfl rfl 7 (by decide) k131 rfl dX3_firstsApart_25 ?_
  refine gv_imul F dX3_firstsApart_28 ?_
  obtain ⟨g18, h⟩ := h
  refine gv_ishl F g18 dX3_firstsApart_29 ?_
  refine gv_name (fun v19 ev19 => ?_)
  have h := h v19 ev19
  refine lv_istore (lv' := [(4, .int (iI v19)), (3, .int (iI u17)), (2, .int (iI 0)), (1, .int (iI u15)), (0, .ref (aO 0))]) F.1 F.2.1 dX3_firstsApart_30 hl (by decide) rfl (fun ls hl => ?_)
  refine gv_iconst F dX3_firstsApart_32 ?_
  refine lv_istore (lv' := [(5, .int (iI 1)), (4, .int (iI v19)), (3, .int (iI u17)), (2, .int (iI 0)), (1, .int (iI u15)), (0, .ref (aO 0))]) F.1 F.2.1 dX3_firstsApart_33 hl (by decide) rfl (fun ls hl => ?_)
  obtain ⟨n20, h⟩ := h
  exact L35 n20 u15 0 u17 v19 1 z16 H locs ls h hP hD hS (lv_sub hl [5, 4, 3, 2, 1, 0] rfl)
abbrev rX3_apart : Room := { frames := 6, cells := 0, slots := 0, locals := 145 }
set_option maxHeartbeats 4000000 in
set_option maxRecDepth 20000 in
theorem c_X3_apart (l : Launch) (D : va_G) (cy : ClassId) (aO : Nat → Nat) (aL : Nat → Nat) (aN : Nat → Nat) (aT : Nat → Nat) (aK : Nat → Nat) (aI : Nat → Nat) (o : AR) (rw : AR) (rf : AR) (lg : AR) (sg : AR) (N : MS) (T : MS) (K : MS) (I : MS) (x1 : Int) (Q : Int → AR → MS → Prop) (h : wX3_apart rf N T x1 Q) : MetI l yX3_apart (wT yX3_apart cX3_apart 3 (some .int)) rX3_apart D cy [.ref (aO 0), .int (iI x1)] (wGh cy aO aL aN aT aK aI o rw rf lg sg N T K I) (fun u : AR × MS => wGh cy aO aL aN aT aK aI o rw u.1 lg sg N u.2 K I) (fun r u => Q r u.1 u.2) := by
  refine gI_I (by decide) (Nat.le_of_ble_eq_true rfl) ?_
  intro p e s m args below meth c A Qg F hK hA ret H locs ls hl hP hD hS
  have F : CallFix p m c cX3_apart 3 s args gT RX3 := F
  have hl : lv_has ls 3 [(0, .ref (aO 0)), (1, .int (iI x1))] := hl
  refine lv_iload_n F.1 F.2.1 dX3_apart_0 rfl (lv_at hl 1 rfl) ?_
  refine gv_iconst F dX3_apart_1 ?_
  obtain ⟨g1, h⟩ := h
  refine gv_icmp_ge (tgt := 12) F g1 ⟨by decide, by decide⟩ dX3_apart_2 (by decide) (fun c2 => ?_) (fun c2 => ?_)
  · have h := h.1 c2
    refine lv_iload_n F.1 F.2.1 dX3_apart_12 rfl (lv_at hl 1 rfl) ?_
    refine lv_aload_n F.1 F.2.1 dX3_apart_13 rfl (lv_at hl 0 rfl) ?_
    refine gv_get F hin3 hK hP 0 rfl rfl 0 (by decide) k188 rfl dX3_apart_14 ?_
    refine gv_get F hin1 hK (cp_gh_N hP) 0 rfl rfl 7 (by decide) k131 rfl dX3_apart_17 ?_
    obtain ⟨g3, h⟩ := h
    refine gv_icmp_lt (tgt := 29) F g1 g3 dX3_apart_20 (by decide) (fun c4 => ?_) (fun c4 => ?_)
    · have h := h.1 c4
      refine lv_aload_n F.1 F.2.1 dX3_apart_29 rfl (lv_at hl 0 rfl) ?_
      refine gv_get F hin3 hK hP 0 rfl rfl 0 (by decide) k188 rfl dX3_apart_30 ?_
      refine gv_get F hin1 hK (cp_gh_N hP) 0 rfl rfl 7 (by decide) k131 rfl dX3_apart_33 ?_
      refine gv_iconst F dX3_apart_36 ?_
      refine gv_icmp_le (tgt := 47) F g3 ⟨by decide, by decide⟩ dX3_apart_37 (by decide) (fun c5 => ?_) (fun c5 => ?_)
      · have h := h.1 c5
        refine lv_aload_n F.1 F.2.1 dX3_apart_47 rfl (lv_at hl 0 rfl) ?_
        refine gc_VI (As := []) (wn := fun u : MS => wGh cy aO aL aN aT aK aI o rw rf lg sg N u K I) F hK hA hP hD hS hP hD (fun u H1 _ h1 h2 => ⟨h1, h2⟩) (c_X3_firstsApart l D cy aO aL aN aT aK aI o rw rf lg sg N T K I _ h) (cwV 0 F.2.2.2.2 (gG_V k630 k632 k26 k61 k633) rfl rfl rfl hd_X3_firstsApart ⟨Nat.le_of_ble_eq_true rfl, Nat.le_of_ble_eq_true rfl⟩) rfl rfl dX3_apart_48 rfl rfl hl.1 (Nat.le_of_ble_eq_true rfl) ⟨Nat.le_of_ble_eq_true rfl, Nat.le_of_ble_eq_true rfl⟩ (fun u7 z6 H locs h hP hD hS => ?_)
        try dsimp only at h hP hD
        refine lv_istore_n (lv' := [(2, .int (iI u7)), (0, .ref (aO 0)), (1, .int (iI x1))]) F.1 F.2.1 dX3_apart_51 rfl hl (by decide) rfl (fun ls hl => ?_)
        refine lv_iload_n F.1 F.2.1 dX3_apart_52 rfl (lv_at hl 2 rfl) ?_
        refine gv_if_lt (tgt := 63) F g1 dX3_apart_53 (by decide) (fun c8 => ?_) (fun c8 => ?_)
        · have h := h.1 c8
          refine lv_aload_n F.1 F.2.1 dX3_apart_63 rfl (lv_at hl 1 rfl) ?_
          refine lv_iload_n F.1 F.2.1 dX3_apart_64 rfl (lv_at hl 0 rfl) ?_
          refine gc_VI (As := [.int (iI u7)]) (wn := fun u : MS => wGh cy aO aL aN aT aK aI o rw rf lg sg N u K I) F hK hA hP hD hS hP hD (fun u H1 _ h1 h2 => ⟨h1, h2⟩) (c_X3_fullestWith l D cy aO aL aN aT aK aI o rw rf lg sg N z6 K I u7 _ h) (cwV 1 F.2.2.2.2 (gG_V k634 k636 k27 k61 k637) rfl rfl rfl hd_X3_fullestWith ⟨Nat.le_of_ble_eq_true rfl, Nat.le_of_ble_eq_true rfl⟩) rfl rfl dX3_apart_65 rfl rfl hl.1 (Nat.le_of_ble_eq_true rfl) ⟨Nat.le_of_ble_eq_true rfl, Nat.le_of_ble_eq_true rfl⟩ (fun u10 z9 H locs h hP hD hS => ?_)
          try dsimp only at h hP hD
          exact ret u10 (rf, z9) H locs 68 ls h rfl hP hD hS dX3_apart_68
        · have h := h.2 c8
          refine lv_aload_n F.1 F.2.1 dX3_apart_56 rfl (lv_at hl 1 rfl) ?_
          refine lv_iload_n F.1 F.2.1 dX3_apart_57 rfl (lv_at hl 0 rfl) ?_
          refine lv_iload_n F.1 F.2.1 dX3_apart_58 rfl (lv_at hl 2 rfl) ?_
          refine gc_VR (As := [.int (iI u7), .int (iI x1)]) F hK hA hP hS hP (c_X3_firstIn l D cy aO aL aN aT aK aI o rw rf lg sg N z6 K I u7 x1 _ h) (cwV 2 F.2.2.2.2 (gG_V k638 k640 k28 k61 k641) rfl rfl rfl hd_X3_firstIn ⟨Nat.le_of_ble_eq_true rfl, Nat.le_of_ble_eq_true rfl⟩) rfl rfl dX3_apart_59 rfl rfl hl.1 (Nat.le_of_ble_eq_true rfl) ⟨Nat.le_of_ble_eq_true rfl, Nat.le_of_ble_eq_true rfl⟩ (fun u11 H locs h hP hS => ?_)
          exact ret u11 (rf, z6) H locs 62 ls h rfl hP hD hS dX3_apart_62
      · have h := h.2 c5
        refine lv_aload_n F.1 F.2.1 dX3_apart_40 rfl (lv_at hl 0 rfl) ?_
        refine gv_bipush F ⟨by decide, by decide⟩ dX3_apart_41 ?_
        refine gc_VI (As := [.int (iI (-3))]) (wn := fun u : AR => wGh cy aO aL aN aT aK aI o rw u lg sg N T K I) F hK hA hP hD hS hP hD (fun u H1 _ h1 h2 => ⟨h1, h2⟩) (c_X3_refuse l D cy aO aL aN aT aK aI o rw rf lg sg N T K I (-3) _ h) (cwV 1 F.2.2.2.2 (gG_V k220 k222 k2 k61 k223) rfl rfl rfl hd_X3_refuse ⟨Nat.le_of_ble_eq_true rfl, Nat.le_of_ble_eq_true rfl⟩) rfl rfl dX3_apart_43 rfl rfl hl.1 (Nat.le_of_ble_eq_true rfl) ⟨Nat.le_of_ble_eq_true rfl, Nat.le_of_ble_eq_true rfl⟩ (fun u13 z12 H locs h hP hD hS => ?_)
        try dsimp only at h hP hD
        exact ret u13 (z12, T) H locs 46 ls h rfl hP hD hS dX3_apart_46
    · have h := h.2 c4
      refine lv_aload_n F.1 F.2.1 dX3_apart_23 rfl (lv_at hl 0 rfl) ?_
      refine gv_iconst F dX3_apart_24 ?_
      refine gc_VI (As := [.int (iI (-1))]) (wn := fun u : AR => wGh cy aO aL aN aT aK aI o rw u lg sg N T K I) F hK hA hP hD hS hP hD (fun u H1 _ h1 h2 => ⟨h1, h2⟩) (c_X3_refuse l D cy aO aL aN aT aK aI o rw rf lg sg N T K I (-1) _ h) (cwV 1 F.2.2.2.2 (gG_V k220 k222 k2 k61 k223) rfl rfl rfl hd_X3_refuse ⟨Nat.le_of_ble_eq_true rfl, Nat.le_of_ble_eq_true rfl⟩) rfl rfl dX3_apart_25 rfl rfl hl.1 (Nat.le_of_ble_eq_true rfl) ⟨Nat.le_of_ble_eq_true rfl, Nat.le_of_ble_eq_true rfl⟩ (fun u15 z14 H locs h hP hD hS => ?_)
      try dsimp only at h hP hD
      exact ret u15 (z14, T) H locs 28 ls h rfl hP hD hS dX3_apart_28
  · have h := h.2 c2
    refine lv_aload_n F.1 F.2.1 dX3_apart_5 rfl (lv_at hl 0 rfl) ?_
    refine gv_bipush F ⟨by decide, by decide⟩ dX3_apart_6 ?_
    refine gc_VI (As := [.int (iI (-4))]) (wn := fun u : AR => wGh cy aO aL aN aT aK aI o rw u lg sg N T K I) F hK hA hP hD hS hP hD (fun u H1 _ h1 h2 => ⟨h1, h2⟩) (c_X3_refuse l D cy aO aL aN aT aK aI o rw rf lg sg N T K I (-4) _ h) (cwV 1 F.2.2.2.2 (gG_V k220 k222 k2 k61 k223) rfl rfl rfl hd_X3_refuse ⟨Nat.le_of_ble_eq_true rfl, Nat.le_of_ble_eq_true rfl⟩) rfl rfl dX3_apart_8 rfl rfl hl.1 (Nat.le_of_ble_eq_true rfl) ⟨Nat.le_of_ble_eq_true rfl, Nat.le_of_ble_eq_true rfl⟩ (fun u17 z16 H locs h hP hD hS => ?_)
    try dsimp only at h hP hD
    exact ret u17 (z16, T) H locs 11 ls h rfl hP hD hS dX3_apart_11
abbrev rX3_leave : Room := { frames := 4, cells := 0, slots := 0, locals := 90 }
set_option maxHeartbeats 4000000 in
set_option maxRecDepth 20000 in
theorem c_X3_leave (l : Launch) (D : va_G) (cy : ClassId) (aO : Nat → Nat) (aL : Nat → Nat) (aN : Nat → Nat) (aT : Nat → Nat) (aK : Nat → Nat) (aI : Nat → Nat) (o : AR) (rw : AR) (rf : AR) (lg : AR) (sg : AR) (N : MS) (T : MS) (K : MS) (I : MS) (Q : Int → MS → Prop) (h : wX3_leave N T Q) : MetI l yX3_leave (wT yX3_leave cX3_leave 5 (some .int)) rX3_leave D cy [.ref (aO 0)] (wGh cy aO aL aN aT aK aI o rw rf lg sg N T K I) (fun u : MS => wGh cy aO aL aN aT aK aI o rw rf lg sg N u K I) (fun r u => Q r u) := by
  refine gI_I (by decide) (Nat.le_of_ble_eq_true rfl) ?_
  intro p e s m args below meth c A Qg F hK hA ret H locs ls hl hP hD hS
  have F : CallFix p m c cX3_leave 5 s args gT RX3 := F
  have hl : lv_has ls 5 [(0, .ref (aO 0))] := hl
  have L8 : ∀ (n : Nat) (y1 : Int) (y2 : Int) (y3 : Int) (T : MS) (H : Heap) (locs : List Loc) (ls : Array Slot), wX3_leave_8 N Q n y1 y2 y3 T → va_P D vwCl (wGh cy aO aL aN aT aK aI o rw rf lg sg N T K I) H → va_D A (wGh cy aO aL aN aT aK aI o rw rf lg sg N T K I) → va_S A s.heap H locs → lv_has ls 5 [(0, .ref (aO 0)), (1, .int (iI y1)), (2, .int (iI y2)), (3, .int (iI y3))] → W p l e rX3_leave s m args below meth c H locs 0 0 Qg (F0 m 8 ls []) := by
    intro  n
    induction n with
    | zero => intro _ _ _ _ _ _ _ h; exact h.elim
    | succ n ih =>
      intro y1 y2 y3 T H locs ls h hP hD hS hl
      rw [wX3_leave_8_s] at h
      refine lv_iload_n F.1 F.2.1 dX3_leave_8 rfl (lv_at hl 3 rfl) ?_
      refine lv_aload_n F.1 F.2.1 dX3_leave_9 rfl (lv_at hl 0 rfl) ?_
      refine gv_get F hin3 hK hP 0 rfl rfl 0 (by decide) k188 rfl dX3_leave_10 ?_
      refine gv_get F hin1 hK (cp_gh_N hP) 0 rfl rfl 2 (by decide) k121 rfl dX3_leave_13 ?_
      obtain ⟨g1, h⟩ := h
      obtain ⟨g2, h⟩ := h
      refine gv_icmp_ge (tgt := 54) F g1 g2 dX3_leave_16 (by decide) (fun c3 => ?_) (fun c3 => ?_)
      · have h := h.1 c3
        refine lv_iload_n F.1 F.2.1 dX3_leave_54 rfl (lv_at hl 1 rfl) ?_
        exact ret y1 T H locs 55 ls h rfl hP hD hS dX3_leave_55
      · have h := h.2 c3
        refine lv_aload_n F.1 F.2.1 dX3_leave_19 rfl (lv_at hl 0 rfl) ?_
        refine gc_VV (As := []) (wn := fun u : MS => wGh cy aO aL aN aT aK aI o rw rf lg sg N u K I) F hK hA hP hD hS hP hD (fun u H1 _ h1 h2 => ⟨h1, h2⟩) (c_X3_think l D cy aO aL aN aT aK aI o rw rf lg sg N T K I _ h) (cwV 0 F.2.2.2.2 (gG_V k539 k541 k19 k61 k542) rfl rfl rfl hd_X3_think ⟨Nat.le_of_ble_eq_true rfl, Nat.le_of_ble_eq_true rfl⟩) rfl rfl dX3_leave_20 rfl rfl hl.1 (Nat.le_of_ble_eq_true rfl) ⟨Nat.le_of_ble_eq_true rfl, Nat.le_of_ble_eq_true rfl⟩ (fun z4 H locs h hP hD hS => ?_)
        try dsimp only at h hP hD
        refine lv_aload_n F.1 F.2.1 dX3_leave_23 rfl (lv_at hl 0 rfl) ?_
        refine gv_get F hin3 hK hP 0 rfl rfl 1 (by decide) k189 rfl dX3_leave_24 ?_
        refine lv_iload_n F.1 F.2.1 dX3_leave_27 rfl (lv_at hl 3 rfl) ?_
        refine gc_VV (As := [.int (iI y3)]) (wn := fun u : MS => wGh cy aO aL aN aT aK aI o rw rf lg sg N u K I) F hK hA hP hD hS (cp_gh_T hP) (cd_gh_T hD) (fun u H1 hk h1 _ => cj_gh_T hP hD u H1 hk h1) (c_X1_fillTruth l D cy aT z4 y3 _ h) (cwV 1 F.2.2.2.2 (gG_V k646 k647 k648 k62 k649) rfl rfl rfl hd_X1_fillTruth ⟨Nat.le_of_ble_eq_true rfl, Nat.le_of_ble_eq_true rfl⟩) rfl rfl dX3_leave_28 rfl rfl hl.1 (Nat.le_of_ble_eq_true rfl) ⟨Nat.le_of_ble_eq_true rfl, Nat.le_of_ble_eq_true rfl⟩ (fun z5 H locs h hP hD hS => ?_)
        try dsimp only at h hP hD
        refine lv_aload_n F.1 F.2.1 dX3_leave_31 rfl (lv_at hl 0 rfl) ?_
        refine gc_VI (As := []) (wn := fun u : MS => wGh cy aO aL aN aT aK aI o rw rf lg sg N u K I) F hK hA hP hD hS hP hD (fun u H1 _ h1 h2 => ⟨h1, h2⟩) (c_X3_minutesTillAllDone l D cy aO aL aN aT aK aI o rw rf lg sg N z5 K I _ h) (cwV 0 F.2.2.2.2 (gG_V k584 k586 k22 k61 k587) rfl rfl rfl hd_X3_minutesTillAllDone ⟨Nat.le_of_ble_eq_true rfl, Nat.le_of_ble_eq_true rfl⟩) rfl rfl dX3_leave_32 rfl rfl hl.1 (Nat.le_of_ble_eq_true rfl) ⟨Nat.le_of_ble_eq_true rfl, Nat.le_of_ble_eq_true rfl⟩ (fun u7 z6 H locs h hP hD hS => ?_)
        try dsimp only at h hP hD
        refine lv_istore (lv' := [(4, .int (iI u7)), (0, .ref (aO 0)), (1, .int (iI y1)), (2, .int (iI y2)), (3, .int (iI y3))]) F.1 F.2.1 dX3_leave_35 hl (by decide) rfl (fun ls hl => ?_)
        refine lv_iload F.1 F.2.1 dX3_leave_37 (lv_at hl 0 rfl) ?_
        refine lv_iload_n F.1 F.2.1 dX3_leave_39 rfl (lv_at hl 3 rfl) ?_
        obtain ⟨g8, h⟩ := h
        obtain ⟨g9, h⟩ := h
        refine gv_icmp_ge (tgt := 48) F g8 g9 dX3_leave_40 (by decide) (fun c10 => ?_) (fun c10 => ?_)
        · have h := h.1 c10
          obtain ⟨v11, ev11⟩ : ∃ z : Int, z = y3 + 1 := ⟨_, rfl⟩
          have h := h v11 ev11
          refine gv_iinc (lv' := [(3, .int (iI v11)), (4, .int (iI u7)), (0, .ref (aO 0)), (1, .int (iI y1)), (2, .int (iI y2))]) F dX3_leave_48 hl (k := 4) rfl ev11 (by decide) rfl (fun ls hl => ?_)
          refine lv_goto (tgt := 8) F.1 F.2.1 dX3_leave_51 (by decide) ?_
          exact ih y1 y2 v11 z6 H locs ls h hP hD hS (lv_sub hl [2, 3, 4, 0] rfl)
        · have h := h.2 c10
          refine lv_iload F.1 F.2.1 dX3_leave_43 (lv_at hl 0 rfl) ?_
          refine lv_istore_n (lv' := [(2, .int (iI u7)), (4, .int (iI u7)), (0, .ref (aO 0)), (1, .int (iI y1)), (3, .int (iI y3))]) F.1 F.2.1 dX3_leave_45 rfl hl (by decide) rfl (fun ls hl => ?_)
          refine lv_iload_n F.1 F.2.1 dX3_leave_46 rfl (lv_at hl 4 rfl) ?_
          refine lv_istore_n (lv' := [(1, .int (iI y3)), (2, .int (iI u7)), (4, .int (iI u7)), (0, .ref (aO 0)), (3, .int (iI y3))]) F.1 F.2.1 dX3_leave_47 rfl hl (by decide) rfl (fun ls hl => ?_)
          obtain ⟨v12, ev12⟩ : ∃ z : Int, z = y3 + 1 := ⟨_, rfl⟩
          have h := h v12 ev12
          refine gv_iinc (lv' := [(3, .int (iI v12)), (1, .int (iI y3)), (2, .int (iI u7)), (4, .int (iI u7)), (0, .ref (aO 0))]) F dX3_leave_48 hl (k := 4) rfl ev12 (by decide) rfl (fun ls hl => ?_)
          refine lv_goto (tgt := 8) F.1 F.2.1 dX3_leave_51 (by decide) ?_
          exact ih y3 u7 v12 z6 H locs ls h hP hD hS (lv_sub hl [4, 1, 2, 0] rfl)
  refine gv_bipush F ⟨by decide, by decide⟩ dX3_leave_0 ?_
  refine lv_istore_n (lv' := [(1, .int (iI (-9))), (0, .ref (aO 0))]) F.1 F.2.1 dX3_leave_2 rfl hl (by decide) rfl (fun ls hl => ?_)
  refine gv_bipush F ⟨by decide, by decide⟩ dX3_leave_3 ?_
  refine lv_istore_n (lv' := [(2, .int (iI 100)), (1, .int (iI (-9))), (0, .ref (aO 0))]) F.1 F.2.1 dX3_leave_5 rfl hl (by decide) rfl (fun ls hl => ?_)
  refine gv_iconst F dX3_leave_6 ?_
  refine lv_istore_n (lv' := [(3, .int (iI 0)), (2, .int (iI 100)), (1, .int (iI (-9))), (0, .ref (aO 0))]) F.1 F.2.1 dX3_leave_7 rfl hl (by decide) rfl (fun ls hl => ?_)
  obtain ⟨n13, h⟩ := h
  exact L8 n13 (-9) 100 0 T H locs ls h hP hD hS (lv_sub hl [3, 2, 1, 0] rfl)
abbrev rX3_tell : Room := { frames := 5, cells := 0, slots := 0, locals := 112 }
set_option maxHeartbeats 4000000 in
set_option maxRecDepth 20000 in
theorem c_X3_tell (l : Launch) (D : va_G) (cy : ClassId) (aO : Nat → Nat) (aL : Nat → Nat) (aN : Nat → Nat) (aT : Nat → Nat) (aK : Nat → Nat) (aI : Nat → Nat) (o : AR) (rw : AR) (rf : AR) (lg : AR) (sg : AR) (N : MS) (T : MS) (K : MS) (I : MS) (x1 : Int) (Q : Int → AR → MS → Prop) (h : wX3_tell rf N T x1 Q) : MetI l yX3_tell (wT yX3_tell cX3_tell 5 (some .int)) rX3_tell D cy [.ref (aO 0), .int (iI x1)] (wGh cy aO aL aN aT aK aI o rw rf lg sg N T K I) (fun u : AR × MS => wGh cy aO aL aN aT aK aI o rw u.1 lg sg N u.2 K I) (fun r u => Q r u.1 u.2) := by
  refine gI_I (by decide) (Nat.le_of_ble_eq_true rfl) ?_
  intro p e s m args below meth c A Qg F hK hA ret H locs ls hl hP hD hS
  have F : CallFix p m c cX3_tell 5 s args gT RX3 := F
  have hl : lv_has ls 5 [(0, .ref (aO 0)), (1, .int (iI x1))] := hl
  have L43 : ∀ (n : Nat) (y1 : Int) (y2 : Int) (y3 : Int) (y4 : Int) (rf : AR) (T : MS) (H : Heap) (locs : List Loc) (ls : Array Slot), wX3_tell_43 N Q n y1 y2 y3 y4 rf T → va_P D vwCl (wGh cy aO aL aN aT aK aI o rw rf lg sg N T K I) H → va_D A (wGh cy aO aL aN aT aK aI o rw rf lg sg N T K I) → va_S A s.heap H locs → lv_has ls 5 [(0, .ref (aO 0)), (1, .int (iI y1)), (2, .int (iI y2)), (3, .int (iI y3)), (4, .int (iI y4))] → W p l e rX3_tell s m args below meth c H locs 0 0 Qg (F0 m 43 ls []) := by
    intro  n
    induction n with
    | zero => intro _ _ _ _ _ _ _ _ _ h; exact h.elim
    | succ n ih =>
      intro y1 y2 y3 y4 rf T H locs ls h hP hD hS hl
      rw [wX3_tell_43_s] at h
      refine lv_iload F.1 F.2.1 dX3_tell_43 (lv_at hl 4 rfl) ?_
      refine lv_aload_n F.1 F.2.1 dX3_tell_45 rfl (lv_at hl 0 rfl) ?_
      refine gv_get F hin3 hK hP 0 rfl rfl 0 (by decide) k188 rfl dX3_tell_46 ?_
      refine gv_get F hin1 hK (cp_gh_N hP) 0 rfl rfl 2 (by decide) k121 rfl dX3_tell_49 ?_
      obtain ⟨g1, h⟩ := h
      obtain ⟨g2, h⟩ := h
      refine gv_icmp_ge (tgt := 106) F g1 g2 dX3_tell_52 (by decide) (fun c3 => ?_) (fun c3 => ?_)
      · have h := h.1 c3
        refine lv_iload_n F.1 F.2.1 dX3_tell_106 rfl (lv_at hl 3 rfl) ?_
        exact ret y3 (rf, T) H locs 107 ls h rfl hP hD hS dX3_tell_107
      · have h := h.2 c3
        refine lv_aload_n F.1 F.2.1 dX3_tell_55 rfl (lv_at hl 0 rfl) ?_
        refine gc_VV (As := []) (wn := fun u : MS => wGh cy aO aL aN aT aK aI o rw rf lg sg N u K I) F hK hA hP hD hS hP hD (fun u H1 _ h1 h2 => ⟨h1, h2⟩) (c_X3_think l D cy aO aL aN aT aK aI o rw rf lg sg N T K I _ h) (cwV 0 F.2.2.2.2 (gG_V k539 k541 k19 k61 k542) rfl rfl rfl hd_X3_think ⟨Nat.le_of_ble_eq_true rfl, Nat.le_of_ble_eq_true rfl⟩) rfl rfl dX3_tell_56 rfl rfl hl.1 (Nat.le_of_ble_eq_true rfl) ⟨Nat.le_of_ble_eq_true rfl, Nat.le_of_ble_eq_true rfl⟩ (fun z4 H locs h hP hD hS => ?_)
        try dsimp only at h hP hD
        refine lv_aload_n F.1 F.2.1 dX3_tell_59 rfl (lv_at hl 0 rfl) ?_
        refine gv_get F hin3 hK hP 0 rfl rfl 1 (by decide) k189 rfl dX3_tell_60 ?_
        refine gv_get F hin1 hK (cp_gh_T hP) 0 rfl rfl 3 (by decide) k123 rfl dX3_tell_63 ?_
        refine lv_iload F.1 F.2.1 dX3_tell_66 (lv_at hl 4 rfl) ?_
        refine gv_iconst F dX3_tell_68 ?_
        obtain ⟨g5, h⟩ := h
        obtain ⟨z6, ez6⟩ : ∃ z : MS, z = st z4 4 y4 5 := ⟨_, rfl⟩
        have h := h z6 ez6
        refine gv_iast (n := 8) (g := (z4 4)) (ws' := wGh cy aO aL aN aT aK aI o rw rf lg sg N z6 K I) F hK hP hD hS 24 rfl rfl (by decide) g5 (by subst ez6; exact wGh_stT 4 (by decide) 8 rfl _ _) dX3_tell_69 (fun H locs hP hD hS => ?_)
        refine lv_aload_n F.1 F.2.1 dX3_tell_70 rfl (lv_at hl 0 rfl) ?_
        refine gv_get F hin3 hK hP 0 rfl rfl 1 (by decide) k189 rfl dX3_tell_71 ?_
        refine lv_iload_n F.1 F.2.1 dX3_tell_74 rfl (lv_at hl 1 rfl) ?_
        refine gc_VV (As := [.int (iI y1)]) (wn := fun u : MS => wGh cy aO aL aN aT aK aI o rw rf lg sg N u K I) F hK hA hP hD hS (cp_gh_T hP) (cd_gh_T hD) (fun u H1 hk h1 _ => cj_gh_T hP hD u H1 hk h1) (c_X1_passMinutes l D cy aT z6 y1 _ h) (cwV 1 F.2.2.2.2 (gG_V k431 k432 k433 k62 k434) rfl rfl rfl hd_X1_passMinutes ⟨Nat.le_of_ble_eq_true rfl, Nat.le_of_ble_eq_true rfl⟩) rfl rfl dX3_tell_75 rfl rfl hl.1 (Nat.le_of_ble_eq_true rfl) ⟨Nat.le_of_ble_eq_true rfl, Nat.le_of_ble_eq_true rfl⟩ (fun z7 H locs h hP hD hS => ?_)
        try dsimp only at h hP hD
        refine lv_aload_n F.1 F.2.1 dX3_tell_78 rfl (lv_at hl 0 rfl) ?_
        refine gv_get F hin3 hK hP 0 rfl rfl 1 (by decide) k189 rfl dX3_tell_79 ?_
        refine gc_VR (As := []) F hK hA hP hS (cp_gh_T hP) (c_X1_rightOfAll l D cy aT z7 _ h) (cwV 0 F.2.2.2.2 (gG_V k523 k524 k525 k62 k526) rfl rfl rfl hd_X1_rightOfAll ⟨Nat.le_of_ble_eq_true rfl, Nat.le_of_ble_eq_true rfl⟩) rfl rfl dX3_tell_82 rfl rfl hl.1 (Nat.le_of_ble_eq_true rfl) ⟨Nat.le_of_ble_eq_true rfl, Nat.le_of_ble_eq_true rfl⟩ (fun u8 H locs h hP hS => ?_)
        refine lv_iload_n F.1 F.2.1 dX3_tell_85 rfl (lv_at hl 2 rfl) ?_
        obtain ⟨g9, h⟩ := h
        obtain ⟨g10, h⟩ := h
        refine gv_icmp_le (tgt := 100) F g9 g10 dX3_tell_86 (by decide) (fun c11 => ?_) (fun c11 => ?_)
        · have h := h.1 c11
          obtain ⟨v12, ev12⟩ : ∃ z : Int, z = y4 + 1 := ⟨_, rfl⟩
          have h := h v12 ev12
          refine gv_iinc (lv' := [(4, .int (iI v12)), (0, .ref (aO 0)), (1, .int (iI y1)), (2, .int (iI y2)), (3, .int (iI y3))]) F dX3_tell_100 hl (k := 4) rfl ev12 (by decide) rfl (fun ls hl => ?_)
          refine lv_goto (tgt := 43) F.1 F.2.1 dX3_tell_103 (by decide) ?_
          exact ih y1 y2 y3 v12 rf z7 H locs ls h hP hD hS (lv_sub hl [1, 2, 3, 4, 0] rfl)
        · have h := h.2 c11
          refine lv_aload_n F.1 F.2.1 dX3_tell_89 rfl (lv_at hl 0 rfl) ?_
          refine gv_get F hin3 hK hP 0 rfl rfl 1 (by decide) k189 rfl dX3_tell_90 ?_
          refine gc_VR (As := []) F hK hA hP hS (cp_gh_T hP) (c_X1_rightOfAll l D cy aT z7 _ h) (cwV 0 F.2.2.2.2 (gG_V k523 k524 k525 k62 k526) rfl rfl rfl hd_X1_rightOfAll ⟨Nat.le_of_ble_eq_true rfl, Nat.le_of_ble_eq_true rfl⟩) rfl rfl dX3_tell_93 rfl rfl hl.1 (Nat.le_of_ble_eq_true rfl) ⟨Nat.le_of_ble_eq_true rfl, Nat.le_of_ble_eq_true rfl⟩ (fun u13 H locs h hP hS => ?_)
          refine lv_istore_n (lv' := [(2, .int (iI u13)), (0, .ref (aO 0)), (1, .int (iI y1)), (3, .int (iI y3)), (4, .int (iI y4))]) F.1 F.2.1 dX3_tell_96 rfl hl (by decide) rfl (fun ls hl => ?_)
          refine lv_iload F.1 F.2.1 dX3_tell_97 (lv_at hl 4 rfl) ?_
          refine lv_istore_n (lv' := [(3, .int (iI y4)), (2, .int (iI u13)), (0, .ref (aO 0)), (1, .int (iI y1)), (4, .int (iI y4))]) F.1 F.2.1 dX3_tell_99 rfl hl (by decide) rfl (fun ls hl => ?_)
          obtain ⟨v14, ev14⟩ : ∃ z : Int, z = y4 + 1 := ⟨_, rfl⟩
          have h := h v14 ev14
          refine gv_iinc (lv' := [(4, .int (iI v14)), (3, .int (iI y4)), (2, .int (iI u13)), (0, .ref (aO 0)), (1, .int (iI y1))]) F dX3_tell_100 hl (k := 4) rfl ev14 (by decide) rfl (fun ls hl => ?_)
          refine lv_goto (tgt := 43) F.1 F.2.1 dX3_tell_103 (by decide) ?_
          exact ih y1 u13 y4 v14 rf z7 H locs ls h hP hD hS (lv_sub hl [3, 4, 2, 1, 0] rfl)
  refine lv_iload_n F.1 F.2.1 dX3_tell_0 rfl (lv_at hl 1 rfl) ?_
  obtain ⟨g15, h⟩ := h
  refine gv_if_ge (tgt := 11) F g15 dX3_tell_1 (by decide) (fun c16 => ?_) (fun c16 => ?_)
  · have h := h.1 c16
    refine lv_iload_n F.1 F.2.1 dX3_tell_11 rfl (lv_at hl 1 rfl) ?_
    refine gv_bipush F ⟨by decide, by decide⟩ dX3_tell_12 ?_
    refine gv_icmp_le (tgt := 24) F g15 ⟨by decide, by decide⟩ dX3_tell_14 (by decide) (fun c17 => ?_) (fun c17 => ?_)
    · have h := h.1 c17
      refine lv_aload_n F.1 F.2.1 dX3_tell_24 rfl (lv_at hl 0 rfl) ?_
      refine lv_iload_n F.1 F.2.1 dX3_tell_25 rfl (lv_at hl 1 rfl) ?_
      refine gc_VV (As := [.int (iI x1)]) (wn := fun u : MS => wGh cy aO aL aN aT aK aI o rw rf lg sg N u K I) F hK hA hP hD hS hP hD (fun u H1 _ h1 h2 => ⟨h1, h2⟩) (c_X3_thinkAhead l D cy aO aL aN aT aK aI o rw rf lg sg N T K I x1 _ h) (cwV 1 F.2.2.2.2 (gG_V k535 k537 k18 k61 k538) rfl rfl rfl hd_X3_thinkAhead ⟨Nat.le_of_ble_eq_true rfl, Nat.le_of_ble_eq_true rfl⟩) rfl rfl dX3_tell_26 rfl rfl hl.1 (Nat.le_of_ble_eq_true rfl) ⟨Nat.le_of_ble_eq_true rfl, Nat.le_of_ble_eq_true rfl⟩ (fun z18 H locs h hP hD hS => ?_)
      try dsimp only at h hP hD
      refine lv_aload_n F.1 F.2.1 dX3_tell_29 rfl (lv_at hl 0 rfl) ?_
      refine gv_get F hin3 hK hP 0 rfl rfl 1 (by decide) k189 rfl dX3_tell_30 ?_
      refine gc_VR (As := []) F hK hA hP hS (cp_gh_T hP) (c_X1_rightOfAll l D cy aT z18 _ h) (cwV 0 F.2.2.2.2 (gG_V k523 k524 k525 k62 k526) rfl rfl rfl hd_X1_rightOfAll ⟨Nat.le_of_ble_eq_true rfl, Nat.le_of_ble_eq_true rfl⟩) rfl rfl dX3_tell_33 rfl rfl hl.1 (Nat.le_of_ble_eq_true rfl) ⟨Nat.le_of_ble_eq_true rfl, Nat.le_of_ble_eq_true rfl⟩ (fun u19 H locs h hP hS => ?_)
      refine lv_istore_n (lv' := [(2, .int (iI u19)), (0, .ref (aO 0)), (1, .int (iI x1))]) F.1 F.2.1 dX3_tell_36 rfl hl (by decide) rfl (fun ls hl => ?_)
      refine gv_bipush F ⟨by decide, by decide⟩ dX3_tell_37 ?_
      refine lv_istore_n (lv' := [(3, .int (iI (-9))), (2, .int (iI u19)), (0, .ref (aO 0)), (1, .int (iI x1))]) F.1 F.2.1 dX3_tell_39 rfl hl (by decide) rfl (fun ls hl => ?_)
      refine gv_iconst F dX3_tell_40 ?_
      refine lv_istore (lv' := [(4, .int (iI 0)), (3, .int (iI (-9))), (2, .int (iI u19)), (0, .ref (aO 0)), (1, .int (iI x1))]) F.1 F.2.1 dX3_tell_41 hl (by decide) rfl (fun ls hl => ?_)
      obtain ⟨n20, h⟩ := h
      exact L43 n20 x1 u19 (-9) 0 rf z18 H locs ls h hP hD hS (lv_sub hl [3, 4, 2, 1, 0] rfl)
    · have h := h.2 c17
      refine lv_aload_n F.1 F.2.1 dX3_tell_17 rfl (lv_at hl 0 rfl) ?_
      refine gv_bipush F ⟨by decide, by decide⟩ dX3_tell_18 ?_
      refine gc_VI (As := [.int (iI (-6))]) (wn := fun u : AR => wGh cy aO aL aN aT aK aI o rw u lg sg N T K I) F hK hA hP hD hS hP hD (fun u H1 _ h1 h2 => ⟨h1, h2⟩) (c_X3_refuse l D cy aO aL aN aT aK aI o rw rf lg sg N T K I (-6) _ h) (cwV 1 F.2.2.2.2 (gG_V k220 k222 k2 k61 k223) rfl rfl rfl hd_X3_refuse ⟨Nat.le_of_ble_eq_true rfl, Nat.le_of_ble_eq_true rfl⟩) rfl rfl dX3_tell_20 rfl rfl hl.1 (Nat.le_of_ble_eq_true rfl) ⟨Nat.le_of_ble_eq_true rfl, Nat.le_of_ble_eq_true rfl⟩ (fun u22 z21 H locs h hP hD hS => ?_)
      try dsimp only at h hP hD
      exact ret u22 (z21, T) H locs 23 ls h rfl hP hD hS dX3_tell_23
  · have h := h.2 c16
    refine lv_aload_n F.1 F.2.1 dX3_tell_4 rfl (lv_at hl 0 rfl) ?_
    refine gv_bipush F ⟨by decide, by decide⟩ dX3_tell_5 ?_
    refine gc_VI (As := [.int (iI (-4))]) (wn := fun u : AR => wGh cy aO aL aN aT aK aI o rw u lg sg N T K I) F hK hA hP hD hS hP hD (fun u H1 _ h1 h2 => ⟨h1, h2⟩) (c_X3_refuse l D cy aO aL aN aT aK aI o rw rf lg sg N T K I (-4) _ h) (cwV 1 F.2.2.2.2 (gG_V k220 k222 k2 k61 k223) rfl rfl rfl hd_X3_refuse ⟨Nat.le_of_ble_eq_true rfl, Nat.le_of_ble_eq_true rfl⟩) rfl rfl dX3_tell_7 rfl rfl hl.1 (Nat.le_of_ble_eq_true rfl) ⟨Nat.le_of_ble_eq_true rfl, Nat.le_of_ble_eq_true rfl⟩ (fun u24 z23 H locs h hP hD hS => ?_)
    try dsimp only at h hP hD
    exact ret u24 (z23, T) H locs 10 ls h rfl hP hD hS dX3_tell_10
