abbrev rX3_clear : Room := { frames := 0, cells := 0, slots := 0, locals := 0 }
set_option maxHeartbeats 4000000 in
set_option maxRecDepth 20000 in
theorem c_X3_clear (l : Launch) (D : va_G) (cy : ClassId) (aO : Nat → Nat) (aL : Nat → Nat) (aN : Nat → Nat) (aT : Nat → Nat) (aK : Nat → Nat) (aI : Nat → Nat) (o : AR) (rw : AR) (rf : AR) (lg : AR) (sg : AR) (N : MS) (T : MS) (K : MS) (I : MS) (Q : Int → AR → Prop) (h : wX3_clear o Q) : MetI l yX3_clear (wT yX3_clear cX3_clear 2 (some .int)) rX3_clear D cy [.ref (aO 0)] (wGh cy aO aL aN aT aK aI o rw rf lg sg N T K I) (fun u : AR => wGh cy aO aL aN aT aK aI u rw rf lg sg N T K I) (fun r u => Q r u) := by
  refine gI_I (by decide) (Nat.le_of_ble_eq_true rfl) ?_
  intro p e s m args below meth c A Qg F hK hA ret H locs ls hl hP hD hS
  have F : CallFix p m c cX3_clear 2 s args gT RX3 := F
  have hl : lv_has ls 2 [(0, .ref (aO 0))] := hl
  refine lv_aload_n F.1 F.2.1 dX3_clear_0 rfl (lv_at hl 0 rfl) ?_
  refine gv_get F hin3 hK hP 0 rfl rfl 7 (by decide) k195 rfl dX3_clear_1 ?_
  refine gv_name (fun v1 ev1 => ?_)
  have h := h v1 ev1
  refine lv_istore_n (lv' := [(1, .int (iI v1)), (0, .ref (aO 0))]) F.1 F.2.1 dX3_clear_4 rfl hl (by decide) rfl (fun ls hl => ?_)
  refine lv_aload_n F.1 F.2.1 dX3_clear_5 rfl (lv_at hl 1 rfl) ?_
  refine gv_iconst F dX3_clear_6 ?_
  obtain ⟨z2, ez2⟩ : ∃ z : AR, z = su o 7 0 := ⟨_, rfl⟩
  have h := h z2 ez2
  refine gv_put (ws' := wGh cy aO aL aN aT aK aI z2 rw rf lg sg N T K I) F hin3 tyX3 tyX3_ok nmX3 hK hP hD hS 0 rfl rfl 7 (by decide) k195 rfl (ty := .int) (by decide +kernel) rfl rfl (Nat.le_of_ble_eq_true rfl) (by subst ez2; exact wGh_o7 rfl) dX3_clear_7 (fun H locs hP hD hS => ?_)
  refine lv_iload_n F.1 F.2.1 dX3_clear_10 rfl (lv_at hl 0 rfl) ?_
  exact ret v1 z2 H locs 11 ls h rfl hP hD hS dX3_clear_11
abbrev rX3_nextSeed : Room := { frames := 0, cells := 0, slots := 0, locals := 0 }
set_option maxHeartbeats 4000000 in
set_option maxRecDepth 20000 in
theorem c_X3_nextSeed (l : Launch) (D : va_G) (cy : ClassId)   (x0 : Int) (Q : Int → Prop) (h : wX3_nextSeed x0 Q) : MetR l yX3_nextSeed (wT yX3_nextSeed cX3_nextSeed 1 (some .int)) rX3_nextSeed D cy [.int (iI x0)] ([]) Q := by
  refine gI_R (by decide) (Nat.le_of_ble_eq_true rfl) ?_
  intro p e s m args below meth c A Qg F hK hA ret H locs ls hl hP hS
  have F : CallFix p m c cX3_nextSeed 1 s args gT RX3 := F
  have hl : lv_has ls 1 [(0, .int (iI x0))] := hl
  refine lv_iload_n F.1 F.2.1 dX3_nextSeed_0 rfl (lv_at hl 0 rfl) ?_
  refine gv_ldcw (n := 1664525) F k718 rfl dX3_nextSeed_1 ?_
  refine gv_imul F dX3_nextSeed_4 ?_
  refine gv_ldcw (n := 1013904223) F k719 rfl dX3_nextSeed_5 ?_
  refine gv_iadd F dX3_nextSeed_8 ?_
  exact ret ((x0 * 1664525) + 1013904223) H locs 9 ls h rfl hS dX3_nextSeed_9
abbrev rX3_drawn : Room := { frames := 0, cells := 0, slots := 0, locals := 0 }
set_option maxHeartbeats 4000000 in
set_option maxRecDepth 20000 in
theorem c_X3_drawn (l : Launch) (D : va_G) (cy : ClassId)   (x0 : Int) (Q : Int → Prop) (h : wX3_drawn x0 Q) : MetR l yX3_drawn (wT yX3_drawn cX3_drawn 1 (some .int)) rX3_drawn D cy [.int (iI x0)] ([]) Q := by
  refine gI_R (by decide) (Nat.le_of_ble_eq_true rfl) ?_
  intro p e s m args below meth c A Qg F hK hA ret H locs ls hl hP hS
  have F : CallFix p m c cX3_drawn 1 s args gT RX3 := F
  have hl : lv_has ls 1 [(0, .int (iI x0))] := hl
  refine lv_iload_n F.1 F.2.1 dX3_drawn_0 rfl (lv_at hl 0 rfl) ?_
  refine gv_ldcw (n := 2147483647) F k723 rfl dX3_drawn_1 ?_
  refine gv_iand F 31 (by decide) (by decide) dX3_drawn_4 ?_
  refine gv_sipush F ⟨by decide, by decide⟩ dX3_drawn_5 ?_
  obtain ⟨g1, h⟩ := h
  refine gv_idiv F ⟨g1, by decide, by decide⟩ dX3_drawn_8 ?_
  exact ret ((x0 % (2147483647 + 1)) / 256) H locs 9 ls h rfl hS dX3_drawn_9
abbrev rX3_lots : Room := { frames := 4, cells := 0, slots := 0, locals := 91 }
set_option maxHeartbeats 4000000 in
set_option maxRecDepth 20000 in
theorem c_X3_lots (l : Launch) (D : va_G) (cy : ClassId) (aO : Nat → Nat) (aL : Nat → Nat) (aN : Nat → Nat) (aT : Nat → Nat) (aK : Nat → Nat) (aI : Nat → Nat) (o : AR) (rw : AR) (rf : AR) (lg : AR) (sg : AR) (N : MS) (T : MS) (K : MS) (I : MS) (x1 x2 x3 : Int) (Q : Int → AR → MS → Prop) (h : wX3_lots rf N T x1 x2 x3 Q) : MetI l yX3_lots (wT yX3_lots cX3_lots 8 (some .int)) rX3_lots D cy [.ref (aO 0), .int (iI x1), .int (iI x2), .int (iI x3)] (wGh cy aO aL aN aT aK aI o rw rf lg sg N T K I) (fun u : AR × MS => wGh cy aO aL aN aT aK aI o rw u.1 lg sg N u.2 K I) (fun r u => Q r u.1 u.2) := by
  refine gI_I (by decide) (Nat.le_of_ble_eq_true rfl) ?_
  intro p e s m args below meth c A Qg F hK hA ret H locs ls hl hP hD hS
  have F : CallFix p m c cX3_lots 8 s args gT RX3 := F
  have hl : lv_has ls 8 [(0, .ref (aO 0)), (1, .int (iI x1)), (2, .int (iI x2)), (3, .int (iI x3))] := hl
  have L63 : ∀ (K50 : Int → Int → Int → Int → Int → AR → MS → Prop) (hK50 : ∀ (y1 : Int) (y3 : Int) (y4 : Int) (y5 : Int) (y6 : Int) (rf : AR) (T : MS) (H : Heap) (locs : List Loc) (ls : Array Slot), K50 y1 y3 y4 y5 y6 rf T → va_P D vwCl (wGh cy aO aL aN aT aK aI o rw rf lg sg N T K I) H → va_D A (wGh cy aO aL aN aT aK aI o rw rf lg sg N T K I) → va_S A s.heap H locs → lv_has ls 8 [(0, .ref (aO 0)), (1, .int (iI y1)), (3, .int (iI y3)), (4, .int (iI y4)), (5, .int (iI y5)), (6, .int (iI y6))] → W p l e rX3_lots s m args below meth c H locs 0 0 Qg (F0 m 50 ls [])) (n : Nat) (y1 : Int) (y3 : Int) (y4 : Int) (y5 : Int) (y6 : Int) (y7 : Int) (rf : AR) (T : MS) (H : Heap) (locs : List Loc) (ls : Array Slot), wX3_lots_63 N K50 Q n y1 y3 y4 y5 y6 y7 rf T → va_P D vwCl (wGh cy aO aL aN aT aK aI o rw rf lg sg N T K I) H → va_D A (wGh cy aO aL aN aT aK aI o rw rf lg sg N T K I) → va_S A s.heap H locs → lv_has ls 8 [(0, .ref (aO 0)), (1, .int (iI y1)), (3, .int (iI y3)), (4, .int (iI y4)), (5, .int (iI y5)), (6, .int (iI y6)), (7, .int (iI y7))] → W p l e rX3_lots s m args below meth c H locs 0 0 Qg (F0 m 63 ls []) := by
    intro K50 hK50 n
    induction n with
    | zero => intro _ _ _ _ _ _ _ _ _ _ _ h; exact h.elim
    | succ n ih =>
      intro y1 y3 y4 y5 y6 y7 rf T H locs ls h hP hD hS hl
      rw [wX3_lots_63_s] at h
      refine lv_iload F.1 F.2.1 dX3_lots_63 (lv_at hl 6 rfl) ?_
      refine lv_aload_n F.1 F.2.1 dX3_lots_65 rfl (lv_at hl 0 rfl) ?_
      refine gv_get F hin3 hK hP 0 rfl rfl 1 (by decide) k189 rfl dX3_lots_66 ?_
      refine gv_get F hin1 hK (cp_gh_T hP) 0 rfl rfl 7 (by decide) k131 rfl dX3_lots_69 ?_
      obtain ⟨g1, h⟩ := h
      obtain ⟨g2, h⟩ := h
      refine gv_icmp_ge (tgt := 131) F g1 g2 dX3_lots_72 (by decide) (fun c3 => ?_) (fun c3 => ?_)
      · have h := h.1 c3
        refine lv_aload_n F.1 F.2.1 dX3_lots_131 rfl (lv_at hl 0 rfl) ?_
        refine gv_get F hin3 hK hP 0 rfl rfl 1 (by decide) k189 rfl dX3_lots_132 ?_
        refine gv_bipush F ⟨by decide, by decide⟩ dX3_lots_135 ?_
        refine gc_VV (As := [.int (iI 30)]) (wn := fun u : MS => wGh cy aO aL aN aT aK aI o rw rf lg sg N u K I) F hK hA hP hD hS (cp_gh_T hP) (cd_gh_T hD) (fun u H1 hk h1 _ => cj_gh_T hP hD u H1 hk h1) (c_X1_passMinutes l D cy aT T 30 _ h) (cwV 1 F.2.2.2.2 (gG_V k431 k432 k433 k62 k434) rfl rfl rfl hd_X1_passMinutes ⟨Nat.le_of_ble_eq_true rfl, Nat.le_of_ble_eq_true rfl⟩) rfl rfl dX3_lots_137 rfl rfl hl.1 (Nat.le_of_ble_eq_true rfl) ⟨Nat.le_of_ble_eq_true rfl, Nat.le_of_ble_eq_true rfl⟩ (fun z4 H locs h hP hD hS => ?_)
        try dsimp only at h hP hD
        refine lv_iload F.1 F.2.1 dX3_lots_140 (lv_at hl 4 rfl) ?_
        refine lv_iload_n F.1 F.2.1 dX3_lots_142 rfl (lv_at hl 2 rfl) ?_
        obtain ⟨g5, h⟩ := h
        refine gv_if_ne (tgt := 156) F g5 dX3_lots_143 (by decide) (fun c6 => ?_) (fun c6 => ?_)
        · have h := h.1 c6
          refine lv_aload_n F.1 F.2.1 dX3_lots_156 rfl (lv_at hl 0 rfl) ?_
          refine gv_get F hin3 hK hP 0 rfl rfl 1 (by decide) k189 rfl dX3_lots_157 ?_
          refine gc_VR (As := []) F hK hA hP hS (cp_gh_T hP) (c_X1_copiedByAll l D cy aT z4 _ h) (cwV 0 F.2.2.2.2 (gG_V k724 k725 k726 k62 k727) rfl rfl rfl hd_X1_copiedByAll ⟨Nat.le_of_ble_eq_true rfl, Nat.le_of_ble_eq_true rfl⟩) rfl rfl dX3_lots_160 rfl rfl hl.1 (Nat.le_of_ble_eq_true rfl) ⟨Nat.le_of_ble_eq_true rfl, Nat.le_of_ble_eq_true rfl⟩ (fun u7 H locs h hP hS => ?_)
          refine gv_iadd F dX3_lots_163 ?_
          refine gv_name (fun v8 ev8 => ?_)
          have h := h v8 ev8
          refine lv_istore (lv' := [(5, .int (iI v8)), (0, .ref (aO 0)), (1, .int (iI y1)), (3, .int (iI y3)), (4, .int (iI y4)), (6, .int (iI y6)), (7, .int (iI y7))]) F.1 F.2.1 dX3_lots_164 hl (by decide) rfl (fun ls hl => ?_)
          obtain ⟨v9, ev9⟩ : ∃ z : Int, z = y6 + 1 := ⟨_, rfl⟩
          have h := h v9 ev9
          refine gv_iinc (lv' := [(6, .int (iI v9)), (5, .int (iI v8)), (0, .ref (aO 0)), (1, .int (iI y1)), (3, .int (iI y3)), (4, .int (iI y4)), (7, .int (iI y7))]) F dX3_lots_166 hl (k := 5) rfl ev9 (by decide) rfl (fun ls hl => ?_)
          refine lv_goto (tgt := 50) F.1 F.2.1 dX3_lots_169 (by decide) ?_
          exact hK50 y1 y3 y4 v8 v9 rf z4 H locs ls h hP hD hS (lv_sub hl [2, 3, 4, 5, 1, 0] rfl)
        · have h := h.2 c6
          refine lv_aload_n F.1 F.2.1 dX3_lots_146 rfl (lv_at hl 0 rfl) ?_
          refine gv_get F hin3 hK hP 0 rfl rfl 1 (by decide) k189 rfl dX3_lots_147 ?_
          refine gc_VR (As := []) F hK hA hP hS (cp_gh_T hP) (c_X1_rightOfAll l D cy aT z4 _ h) (cwV 0 F.2.2.2.2 (gG_V k523 k524 k525 k62 k526) rfl rfl rfl hd_X1_rightOfAll ⟨Nat.le_of_ble_eq_true rfl, Nat.le_of_ble_eq_true rfl⟩) rfl rfl dX3_lots_150 rfl rfl hl.1 (Nat.le_of_ble_eq_true rfl) ⟨Nat.le_of_ble_eq_true rfl, Nat.le_of_ble_eq_true rfl⟩ (fun u10 H locs h hP hS => ?_)
          refine lv_goto (tgt := 163) F.1 F.2.1 dX3_lots_153 (by decide) ?_
          refine gv_iadd F dX3_lots_163 ?_
          refine gv_name (fun v11 ev11 => ?_)
          have h := h v11 ev11
          refine lv_istore (lv' := [(5, .int (iI v11)), (0, .ref (aO 0)), (1, .int (iI y1)), (3, .int (iI y3)), (4, .int (iI y4)), (6, .int (iI y6)), (7, .int (iI y7))]) F.1 F.2.1 dX3_lots_164 hl (by decide) rfl (fun ls hl => ?_)
          obtain ⟨v12, ev12⟩ : ∃ z : Int, z = y6 + 1 := ⟨_, rfl⟩
          have h := h v12 ev12
          refine gv_iinc (lv' := [(6, .int (iI v12)), (5, .int (iI v11)), (0, .ref (aO 0)), (1, .int (iI y1)), (3, .int (iI y3)), (4, .int (iI y4)), (7, .int (iI y7))]) F dX3_lots_166 hl (k := 5) rfl ev12 (by decide) rfl (fun ls hl => ?_)
          refine lv_goto (tgt := 50) F.1 F.2.1 dX3_lots_169 (by decide) ?_
          exact hK50 y1 y3 y4 v11 v12 rf z4 H locs ls h hP hD hS (lv_sub hl [2, 3, 4, 5, 1, 0] rfl)
      · have h := h.2 c3
        refine lv_iload F.1 F.2.1 dX3_lots_75 (lv_at hl 3 rfl) ?_
        refine gc_SR (As := [.int (iI y4)]) F hK hA hP hS gPnil (c_X3_nextSeed l D cy y4 _ h) (cwS 1 F.2.2.2.2 (gG_S k715 k716 k61 k717) rfl rfl rfl hd_X3_nextSeed ⟨Nat.le_of_ble_eq_true rfl, Nat.le_of_ble_eq_true rfl⟩) dX3_lots_77 rfl rfl hl.1 (Nat.le_of_ble_eq_true rfl) ⟨Nat.le_of_ble_eq_true rfl, Nat.le_of_ble_eq_true rfl⟩ (fun u13 H locs h hP hS => ?_)
        refine lv_istore (lv' := [(4, .int (iI u13)), (0, .ref (aO 0)), (1, .int (iI y1)), (3, .int (iI y3)), (5, .int (iI y5)), (6, .int (iI y6)), (7, .int (iI y7))]) F.1 F.2.1 dX3_lots_80 hl (by decide) rfl (fun ls hl => ?_)
        refine lv_aload_n F.1 F.2.1 dX3_lots_82 rfl (lv_at hl 1 rfl) ?_
        refine gv_get F hin3 hK hP 0 rfl rfl 1 (by decide) k189 rfl dX3_lots_83 ?_
        refine gv_get F hin1 hK (cp_gh_T hP) 0 rfl rfl 11 (by decide) k139 rfl dX3_lots_86 ?_
        refine lv_iload F.1 F.2.1 dX3_lots_89 (lv_at hl 6 rfl) ?_
        refine lv_iload F.1 F.2.1 dX3_lots_91 (lv_at hl 0 rfl) ?_
        refine gc_SR (As := [.int (iI u13)]) F hK hA hP hS gPnil (c_X3_drawn l D cy u13 _ h) (cwS 1 F.2.2.2.2 (gG_S k720 k721 k61 k722) rfl rfl rfl hd_X3_drawn ⟨Nat.le_of_ble_eq_true rfl, Nat.le_of_ble_eq_true rfl⟩) dX3_lots_93 rfl rfl hl.1 (Nat.le_of_ble_eq_true rfl) ⟨Nat.le_of_ble_eq_true rfl, Nat.le_of_ble_eq_true rfl⟩ (fun u14 H locs h hP hS => ?_)
        refine gv_bipush F ⟨by decide, by decide⟩ dX3_lots_96 ?_
        obtain ⟨g15, h⟩ := h
        refine gv_irem F ⟨g15, by decide, by decide⟩ dX3_lots_98 ?_
        obtain ⟨g16, h⟩ := h
        obtain ⟨z17, ez17⟩ : ∃ z : MS, z = st T 11 y7 (u14 % 7) := ⟨_, rfl⟩
        have h := h z17 ez17
        refine gv_iast (n := 5) (g := (T 11)) (ws' := wGh cy aO aL aN aT aK aI o rw rf lg sg N z17 K I) F hK hP hD hS 31 rfl rfl (by decide) g16 (by subst ez17; exact wGh_stT 11 (by decide) 5 rfl _ _) dX3_lots_99 (fun H locs hP hD hS => ?_)
        refine lv_iload F.1 F.2.1 dX3_lots_100 (lv_at hl 0 rfl) ?_
        refine gc_SR (As := [.int (iI u13)]) F hK hA hP hS gPnil (c_X3_nextSeed l D cy u13 _ h) (cwS 1 F.2.2.2.2 (gG_S k715 k716 k61 k717) rfl rfl rfl hd_X3_nextSeed ⟨Nat.le_of_ble_eq_true rfl, Nat.le_of_ble_eq_true rfl⟩) dX3_lots_102 rfl rfl hl.1 (Nat.le_of_ble_eq_true rfl) ⟨Nat.le_of_ble_eq_true rfl, Nat.le_of_ble_eq_true rfl⟩ (fun u18 H locs h hP hS => ?_)
        refine lv_istore (lv' := [(4, .int (iI u18)), (0, .ref (aO 0)), (1, .int (iI y1)), (3, .int (iI y3)), (5, .int (iI y5)), (6, .int (iI y6)), (7, .int (iI y7))]) F.1 F.2.1 dX3_lots_105 hl (by decide) rfl (fun ls hl => ?_)
        refine lv_aload_n F.1 F.2.1 dX3_lots_107 rfl (lv_at hl 1 rfl) ?_
        refine gv_get F hin3 hK hP 0 rfl rfl 1 (by decide) k189 rfl dX3_lots_108 ?_
        refine gv_get F hin1 hK (cp_gh_T hP) 0 rfl rfl 10 (by decide) k137 rfl dX3_lots_111 ?_
        refine lv_iload F.1 F.2.1 dX3_lots_114 (lv_at hl 6 rfl) ?_
        refine lv_iload F.1 F.2.1 dX3_lots_116 (lv_at hl 0 rfl) ?_
        refine gc_SR (As := [.int (iI u18)]) F hK hA hP hS gPnil (c_X3_drawn l D cy u18 _ h) (cwS 1 F.2.2.2.2 (gG_S k720 k721 k61 k722) rfl rfl rfl hd_X3_drawn ⟨Nat.le_of_ble_eq_true rfl, Nat.le_of_ble_eq_true rfl⟩) dX3_lots_118 rfl rfl hl.1 (Nat.le_of_ble_eq_true rfl) ⟨Nat.le_of_ble_eq_true rfl, Nat.le_of_ble_eq_true rfl⟩ (fun u19 H locs h hP hS => ?_)
        refine gv_bipush F ⟨by decide, by decide⟩ dX3_lots_121 ?_
        obtain ⟨g20, h⟩ := h
        refine gv_irem F ⟨g20, by decide, by decide⟩ dX3_lots_123 ?_
        obtain ⟨g21, h⟩ := h
        obtain ⟨z22, ez22⟩ : ∃ z : MS, z = st z17 10 y7 (u19 % 8) := ⟨_, rfl⟩
        have h := h z22 ez22
        refine gv_iast (n := 5) (g := (z17 10)) (ws' := wGh cy aO aL aN aT aK aI o rw rf lg sg N z22 K I) F hK hP hD hS 30 rfl rfl (by decide) g21 (by subst ez22; exact wGh_stT 10 (by decide) 5 rfl _ _) dX3_lots_124 (fun H locs hP hD hS => ?_)
        obtain ⟨v23, ev23⟩ : ∃ z : Int, z = y7 + 1 := ⟨_, rfl⟩
        have h := h v23 ev23
        refine gv_iinc (lv' := [(7, .int (iI v23)), (4, .int (iI u18)), (0, .ref (aO 0)), (1, .int (iI y1)), (3, .int (iI y3)), (5, .int (iI y5)), (6, .int (iI y6))]) F dX3_lots_125 hl (k := 6) rfl ev23 (by decide) rfl (fun ls hl => ?_)
        refine lv_goto (tgt := 63) F.1 F.2.1 dX3_lots_128 (by decide) ?_
        exact ih y1 y3 u18 y5 y6 v23 rf z22 H locs ls h hP hD hS (lv_sub hl [2, 3, 4, 1, 5, 6, 0] rfl)
  have L50 : ∀ (n : Nat) (y1 : Int) (y3 : Int) (y4 : Int) (y5 : Int) (y6 : Int) (rf : AR) (T : MS) (H : Heap) (locs : List Loc) (ls : Array Slot), wX3_lots_50 N Q n y1 y3 y4 y5 y6 rf T → va_P D vwCl (wGh cy aO aL aN aT aK aI o rw rf lg sg N T K I) H → va_D A (wGh cy aO aL aN aT aK aI o rw rf lg sg N T K I) → va_S A s.heap H locs → lv_has ls 8 [(0, .ref (aO 0)), (1, .int (iI y1)), (3, .int (iI y3)), (4, .int (iI y4)), (5, .int (iI y5)), (6, .int (iI y6))] → W p l e rX3_lots s m args below meth c H locs 0 0 Qg (F0 m 50 ls []) := by
    intro  n
    induction n with
    | zero => intro _ _ _ _ _ _ _ _ _ _ h; exact h.elim
    | succ n ih =>
      intro y1 y3 y4 y5 y6 rf T H locs ls h hP hD hS hl
      rw [wX3_lots_50_s] at h
      refine lv_iload F.1 F.2.1 dX3_lots_50 (lv_at hl 5 rfl) ?_
      refine lv_iload_n F.1 F.2.1 dX3_lots_52 rfl (lv_at hl 1 rfl) ?_
      obtain ⟨g24, h⟩ := h
      obtain ⟨g25, h⟩ := h
      refine gv_icmp_ge (tgt := 172) F g24 g25 dX3_lots_53 (by decide) (fun c26 => ?_) (fun c26 => ?_)
      · have h := h.1 c26
        refine lv_iload F.1 F.2.1 dX3_lots_172 (lv_at hl 4 rfl) ?_
        exact ret y5 (rf, T) H locs 174 ls h rfl hP hD hS dX3_lots_174
      · have h := h.2 c26
        refine lv_aload_n F.1 F.2.1 dX3_lots_56 rfl (lv_at hl 0 rfl) ?_
        refine gc_VV (As := []) (wn := fun u : MS => wGh cy aO aL aN aT aK aI o rw rf lg sg N u K I) F hK hA hP hD hS hP hD (fun u H1 _ h1 h2 => ⟨h1, h2⟩) (c_X3_think l D cy aO aL aN aT aK aI o rw rf lg sg N T K I _ h) (cwV 0 F.2.2.2.2 (gG_V k539 k541 k19 k61 k542) rfl rfl rfl hd_X3_think ⟨Nat.le_of_ble_eq_true rfl, Nat.le_of_ble_eq_true rfl⟩) rfl rfl dX3_lots_57 rfl rfl hl.1 (Nat.le_of_ble_eq_true rfl) ⟨Nat.le_of_ble_eq_true rfl, Nat.le_of_ble_eq_true rfl⟩ (fun z27 H locs h hP hD hS => ?_)
        try dsimp only at h hP hD
        refine gv_iconst F dX3_lots_60 ?_
        refine lv_istore (lv' := [(7, .int (iI 0)), (0, .ref (aO 0)), (1, .int (iI y1)), (3, .int (iI y3)), (4, .int (iI y4)), (5, .int (iI y5)), (6, .int (iI y6))]) F.1 F.2.1 dX3_lots_61 hl (by decide) rfl (fun ls hl => ?_)
        obtain ⟨n28, h⟩ := h
        exact L63 _ ih n28 y1 y3 y4 y5 y6 0 rf z27 H locs ls h hP hD hS (lv_sub hl [1, 2, 3, 4, 5, 6, 0] rfl)
  refine lv_iload_n F.1 F.2.1 dX3_lots_0 rfl (lv_at hl 1 rfl) ?_
  refine gv_iconst F dX3_lots_1 ?_
  obtain ⟨g29, h⟩ := h
  refine gv_icmp_ge (tgt := 12) F g29 ⟨by decide, by decide⟩ dX3_lots_2 (by decide) (fun c30 => ?_) (fun c30 => ?_)
  · have h := h.1 c30
    refine lv_iload_n F.1 F.2.1 dX3_lots_12 rfl (lv_at hl 1 rfl) ?_
    refine gv_bipush F ⟨by decide, by decide⟩ dX3_lots_13 ?_
    refine gv_icmp_le (tgt := 25) F g29 ⟨by decide, by decide⟩ dX3_lots_15 (by decide) (fun c31 => ?_) (fun c31 => ?_)
    · have h := h.1 c31
      refine lv_iload_n F.1 F.2.1 dX3_lots_25 rfl (lv_at hl 3 rfl) ?_
      obtain ⟨g32, h⟩ := h
      refine gv_if_lt (tgt := 34) F g32 dX3_lots_26 (by decide) (fun c33 => ?_) (fun c33 => ?_)
      · have h := h.1 c33
        refine lv_aload_n F.1 F.2.1 dX3_lots_34 rfl (lv_at hl 0 rfl) ?_
        refine gv_bipush F ⟨by decide, by decide⟩ dX3_lots_35 ?_
        refine gc_VI (As := [.int (iI (-2))]) (wn := fun u : AR => wGh cy aO aL aN aT aK aI o rw u lg sg N T K I) F hK hA hP hD hS hP hD (fun u H1 _ h1 h2 => ⟨h1, h2⟩) (c_X3_refuse l D cy aO aL aN aT aK aI o rw rf lg sg N T K I (-2) _ h) (cwV 1 F.2.2.2.2 (gG_V k220 k222 k2 k61 k223) rfl rfl rfl hd_X3_refuse ⟨Nat.le_of_ble_eq_true rfl, Nat.le_of_ble_eq_true rfl⟩) rfl rfl dX3_lots_37 rfl rfl hl.1 (Nat.le_of_ble_eq_true rfl) ⟨Nat.le_of_ble_eq_true rfl, Nat.le_of_ble_eq_true rfl⟩ (fun u35 z34 H locs h hP hD hS => ?_)
        try dsimp only at h hP hD
        exact ret u35 (z34, T) H locs 40 ls h rfl hP hD hS dX3_lots_40
      · have h := h.2 c33
        refine lv_iload_n F.1 F.2.1 dX3_lots_29 rfl (lv_at hl 3 rfl) ?_
        refine gv_iconst F dX3_lots_30 ?_
        refine gv_icmp_le (tgt := 41) F g32 ⟨by decide, by decide⟩ dX3_lots_31 (by decide) (fun c36 => ?_) (fun c36 => ?_)
        · have h := h.1 c36
          refine lv_iload_n F.1 F.2.1 dX3_lots_41 rfl (lv_at hl 2 rfl) ?_
          refine lv_istore (lv' := [(4, .int (iI x2)), (0, .ref (aO 0)), (1, .int (iI x1)), (2, .int (iI x2)), (3, .int (iI x3))]) F.1 F.2.1 dX3_lots_42 hl (by decide) rfl (fun ls hl => ?_)
          refine gv_iconst F dX3_lots_44 ?_
          refine lv_istore (lv' := [(5, .int (iI 0)), (4, .int (iI x2)), (0, .ref (aO 0)), (1, .int (iI x1)), (2, .int (iI x2)), (3, .int (iI x3))]) F.1 F.2.1 dX3_lots_45 hl (by decide) rfl (fun ls hl => ?_)
          refine gv_iconst F dX3_lots_47 ?_
          refine lv_istore (lv' := [(6, .int (iI 0)), (5, .int (iI 0)), (4, .int (iI x2)), (0, .ref (aO 0)), (1, .int (iI x1)), (2, .int (iI x2)), (3, .int (iI x3))]) F.1 F.2.1 dX3_lots_48 hl (by decide) rfl (fun ls hl => ?_)
          obtain ⟨n37, h⟩ := h
          exact L50 n37 x1 x3 x2 0 0 rf T H locs ls h hP hD hS (lv_sub hl [3, 4, 6, 2, 1, 0] rfl)
        · have h := h.2 c36
          refine lv_aload_n F.1 F.2.1 dX3_lots_34 rfl (lv_at hl 0 rfl) ?_
          refine gv_bipush F ⟨by decide, by decide⟩ dX3_lots_35 ?_
          refine gc_VI (As := [.int (iI (-2))]) (wn := fun u : AR => wGh cy aO aL aN aT aK aI o rw u lg sg N T K I) F hK hA hP hD hS hP hD (fun u H1 _ h1 h2 => ⟨h1, h2⟩) (c_X3_refuse l D cy aO aL aN aT aK aI o rw rf lg sg N T K I (-2) _ h) (cwV 1 F.2.2.2.2 (gG_V k220 k222 k2 k61 k223) rfl rfl rfl hd_X3_refuse ⟨Nat.le_of_ble_eq_true rfl, Nat.le_of_ble_eq_true rfl⟩) rfl rfl dX3_lots_37 rfl rfl hl.1 (Nat.le_of_ble_eq_true rfl) ⟨Nat.le_of_ble_eq_true rfl, Nat.le_of_ble_eq_true rfl⟩ (fun u39 z38 H locs h hP hD hS => ?_)
          try dsimp only at h hP hD
          exact ret u39 (z38, T) H locs 40 ls h rfl hP hD hS dX3_lots_40
    · have h := h.2 c31
      refine lv_aload_n F.1 F.2.1 dX3_lots_18 rfl (lv_at hl 0 rfl) ?_
      refine gv_bipush F ⟨by decide, by decide⟩ dX3_lots_19 ?_
      refine gc_VI (As := [.int (iI (-6))]) (wn := fun u : AR => wGh cy aO aL aN aT aK aI o rw u lg sg N T K I) F hK hA hP hD hS hP hD (fun u H1 _ h1 h2 => ⟨h1, h2⟩) (c_X3_refuse l D cy aO aL aN aT aK aI o rw rf lg sg N T K I (-6) _ h) (cwV 1 F.2.2.2.2 (gG_V k220 k222 k2 k61 k223) rfl rfl rfl hd_X3_refuse ⟨Nat.le_of_ble_eq_true rfl, Nat.le_of_ble_eq_true rfl⟩) rfl rfl dX3_lots_21 rfl rfl hl.1 (Nat.le_of_ble_eq_true rfl) ⟨Nat.le_of_ble_eq_true rfl, Nat.le_of_ble_eq_true rfl⟩ (fun u41 z40 H locs h hP hD hS => ?_)
      try dsimp only at h hP hD
      exact ret u41 (z40, T) H locs 24 ls h rfl hP hD hS dX3_lots_24
  · have h := h.2 c30
    refine lv_aload_n F.1 F.2.1 dX3_lots_5 rfl (lv_at hl 0 rfl) ?_
    refine gv_bipush F ⟨by decide, by decide⟩ dX3_lots_6 ?_
    refine gc_VI (As := [.int (iI (-4))]) (wn := fun u : AR => wGh cy aO aL aN aT aK aI o rw u lg sg N T K I) F hK hA hP hD hS hP hD (fun u H1 _ h1 h2 => ⟨h1, h2⟩) (c_X3_refuse l D cy aO aL aN aT aK aI o rw rf lg sg N T K I (-4) _ h) (cwV 1 F.2.2.2.2 (gG_V k220 k222 k2 k61 k223) rfl rfl rfl hd_X3_refuse ⟨Nat.le_of_ble_eq_true rfl, Nat.le_of_ble_eq_true rfl⟩) rfl rfl dX3_lots_8 rfl rfl hl.1 (Nat.le_of_ble_eq_true rfl) ⟨Nat.le_of_ble_eq_true rfl, Nat.le_of_ble_eq_true rfl⟩ (fun u43 z42 H locs h hP hD hS => ?_)
    try dsimp only at h hP hD
    exact ret u43 (z42, T) H locs 11 ls h rfl hP hD hS dX3_lots_11
abbrev rX3_image : Room := { frames := 3, cells := 0, slots := 0, locals := 66 }
set_option maxHeartbeats 4000000 in
set_option maxRecDepth 20000 in
theorem c_X3_image (l : Launch) (D : va_G) (cy : ClassId) (aO : Nat → Nat) (aL : Nat → Nat) (aN : Nat → Nat) (aT : Nat → Nat) (aK : Nat → Nat) (aI : Nat → Nat) (o : AR) (rw : AR) (rf : AR) (lg : AR) (sg : AR) (N : MS) (T : MS) (K : MS) (I : MS) (Q : Int → AR → MS → Prop) (h : wX3_image o N Q) : MetI l yX3_image (wT yX3_image cX3_image 1 (some .int)) rX3_image D cy [.ref (aO 0)] (wGh cy aO aL aN aT aK aI o rw rf lg sg N T K I) (fun u : AR × MS => wGh cy aO aL aN aT aK aI u.1 rw rf lg sg N T K u.2) (fun r u => Q r u.1 u.2) := by
  refine gI_I (by decide) (Nat.le_of_ble_eq_true rfl) ?_
  intro p e s m args below meth c A Qg F hK hA ret H locs ls hl hP hD hS
  have F : CallFix p m c cX3_image 1 s args gT RX3 := F
  have hl : lv_has ls 1 [(0, .ref (aO 0))] := hl
  refine lv_aload_n F.1 F.2.1 dX3_image_0 rfl (lv_at hl 0 rfl) ?_
  refine gv_get F hin3 hK hP 0 rfl rfl 3 (by decide) k191 rfl dX3_image_1 ?_
  refine lv_aload_n F.1 F.2.1 dX3_image_4 rfl (lv_at hl 0 rfl) ?_
  refine gv_get F hin3 hK hP 0 rfl rfl 0 (by decide) k188 rfl dX3_image_5 ?_
  refine gc_VV (As := [.ref (aN 0)]) (wn := fun u : MS => wGh cy aO aL aN aT aK aI o rw rf lg sg N T K u) F hK hA hP hD hS (cp_gh_IN hP) (cd_gh_IN hD) (fun u H1 hk h1 _ => cj_gh_IN hP hD u H1 hk h1) (c_MuBecome l D cy aI aN I N _ h) (cwV 1 F.2.2.2.2 (gG_V k346 k347 k348 k62 k349) rfl rfl rfl hd_X1_become ⟨Nat.le_of_ble_eq_true rfl, Nat.le_of_ble_eq_true rfl⟩) rfl rfl dX3_image_8 rfl rfl hl.1 (Nat.le_of_ble_eq_true rfl) ⟨Nat.le_of_ble_eq_true rfl, Nat.le_of_ble_eq_true rfl⟩ (fun z1 H locs h hP hD hS => ?_)
  try dsimp only at h hP hD
  refine lv_aload_n F.1 F.2.1 dX3_image_11 rfl (lv_at hl 0 rfl) ?_
  refine gv_iconst F dX3_image_12 ?_
  obtain ⟨z2, ez2⟩ : ∃ z : AR, z = su o 4 1 := ⟨_, rfl⟩
  have h := h z2 ez2
  refine gv_put (ws' := wGh cy aO aL aN aT aK aI z2 rw rf lg sg N T K z1) F hin3 tyX3 tyX3_ok nmX3 hK hP hD hS 0 rfl rfl 4 (by decide) k192 rfl (ty := .boolean) (by decide +kernel) rfl rfl (Nat.le_of_ble_eq_true rfl) (by subst ez2; exact wGh_o4 rfl) dX3_image_13 (fun H locs hP hD hS => ?_)
  refine lv_aload_n F.1 F.2.1 dX3_image_16 rfl (lv_at hl 0 rfl) ?_
  refine gv_get F hin3 hK hP 0 rfl rfl 0 (by decide) k188 rfl dX3_image_17 ?_
  refine gv_get F hin1 hK (cp_gh_N hP) 0 rfl rfl 1 (by decide) k119 rfl dX3_image_20 ?_
  exact ret (N 0 1) (z2, z1) H locs 23 ls h rfl hP hD hS dX3_image_23
abbrev rX3_on : Room := { frames := 3, cells := 0, slots := 0, locals := 66 }
set_option maxHeartbeats 4000000 in
set_option maxRecDepth 20000 in
theorem c_X3_on (l : Launch) (D : va_G) (cy : ClassId) (aO : Nat → Nat) (aL : Nat → Nat) (aN : Nat → Nat) (aT : Nat → Nat) (aK : Nat → Nat) (aI : Nat → Nat) (o : AR) (rw : AR) (rf : AR) (lg : AR) (sg : AR) (N : MS) (T : MS) (K : MS) (I : MS) (Q : Int → AR → MS → Prop) (h : wX3_on o rf N I Q) : MetI l yX3_on (wT yX3_on cX3_on 1 (some .int)) rX3_on D cy [.ref (aO 0)] (wGh cy aO aL aN aT aK aI o rw rf lg sg N T K I) (fun u : AR × MS => wGh cy aO aL aN aT aK aI o rw u.1 lg sg u.2 T K I) (fun r u => Q r u.1 u.2) := by
  refine gI_I (by decide) (Nat.le_of_ble_eq_true rfl) ?_
  intro p e s m args below meth c A Qg F hK hA ret H locs ls hl hP hD hS
  have F : CallFix p m c cX3_on 1 s args gT RX3 := F
  have hl : lv_has ls 1 [(0, .ref (aO 0))] := hl
  refine lv_aload_n F.1 F.2.1 dX3_on_0 rfl (lv_at hl 0 rfl) ?_
  refine gv_get F hin3 hK hP 0 rfl rfl 4 (by decide) k192 rfl dX3_on_1 ?_
  obtain ⟨g1, h⟩ := h
  refine gv_if_ne (tgt := 14) F g1 dX3_on_4 (by decide) (fun c2 => ?_) (fun c2 => ?_)
  · have h := h.1 c2
    refine lv_aload_n F.1 F.2.1 dX3_on_14 rfl (lv_at hl 0 rfl) ?_
    refine gv_get F hin3 hK hP 0 rfl rfl 0 (by decide) k188 rfl dX3_on_15 ?_
    refine lv_aload_n F.1 F.2.1 dX3_on_18 rfl (lv_at hl 0 rfl) ?_
    refine gv_get F hin3 hK hP 0 rfl rfl 3 (by decide) k191 rfl dX3_on_19 ?_
    refine gc_VV (As := [.ref (aI 0)]) (wn := fun u : MS => wGh cy aO aL aN aT aK aI o rw rf lg sg u T K I) F hK hA hP hD hS (cp_gh_NI hP) (cd_gh_NI hD) (fun u H1 hk h1 _ => cj_gh_NI hP hD u H1 hk h1) (c_MuBecome l D cy aN aI N I _ h) (cwV 1 F.2.2.2.2 (gG_V k346 k347 k348 k62 k349) rfl rfl rfl hd_X1_become ⟨Nat.le_of_ble_eq_true rfl, Nat.le_of_ble_eq_true rfl⟩) rfl rfl dX3_on_22 rfl rfl hl.1 (Nat.le_of_ble_eq_true rfl) ⟨Nat.le_of_ble_eq_true rfl, Nat.le_of_ble_eq_true rfl⟩ (fun z3 H locs h hP hD hS => ?_)
    try dsimp only at h hP hD
    refine lv_aload_n F.1 F.2.1 dX3_on_25 rfl (lv_at hl 0 rfl) ?_
    refine gv_get F hin3 hK hP 0 rfl rfl 0 (by decide) k188 rfl dX3_on_26 ?_
    refine gv_get F hin1 hK (cp_gh_N hP) 0 rfl rfl 1 (by decide) k119 rfl dX3_on_29 ?_
    exact ret (z3 0 1) (rf, z3) H locs 32 ls h rfl hP hD hS dX3_on_32
  · have h := h.2 c2
    refine lv_aload_n F.1 F.2.1 dX3_on_7 rfl (lv_at hl 0 rfl) ?_
    refine gv_bipush F ⟨by decide, by decide⟩ dX3_on_8 ?_
    refine gc_VI (As := [.int (iI (-3))]) (wn := fun u : AR => wGh cy aO aL aN aT aK aI o rw u lg sg N T K I) F hK hA hP hD hS hP hD (fun u H1 _ h1 h2 => ⟨h1, h2⟩) (c_X3_refuse l D cy aO aL aN aT aK aI o rw rf lg sg N T K I (-3) _ h) (cwV 1 F.2.2.2.2 (gG_V k220 k222 k2 k61 k223) rfl rfl rfl hd_X3_refuse ⟨Nat.le_of_ble_eq_true rfl, Nat.le_of_ble_eq_true rfl⟩) rfl rfl dX3_on_10 rfl rfl hl.1 (Nat.le_of_ble_eq_true rfl) ⟨Nat.le_of_ble_eq_true rfl, Nat.le_of_ble_eq_true rfl⟩ (fun u5 z4 H locs h hP hD hS => ?_)
    try dsimp only at h hP hD
    exact ret u5 (z4, N) H locs 13 ls h rfl hP hD hS dX3_on_13
abbrev rX3_count : Room := { frames := 3, cells := 0, slots := 0, locals := 67 }
set_option maxHeartbeats 4000000 in
set_option maxRecDepth 20000 in
theorem c_X3_count (l : Launch) (D : va_G) (cy : ClassId) (aO : Nat → Nat) (aL : Nat → Nat) (aN : Nat → Nat) (aT : Nat → Nat) (aK : Nat → Nat) (aI : Nat → Nat) (o : AR) (rw : AR) (rf : AR) (lg : AR) (sg : AR) (N : MS) (T : MS) (K : MS) (I : MS) (x1 : Int) (Q : Int → Prop) (h : wX3_count o rf lg N x1 Q) : MetR l yX3_count (wT yX3_count cX3_count 2 (some .int)) rX3_count D cy [.ref (aO 0), .int (iI x1)] (wGh cy aO aL aN aT aK aI o rw rf lg sg N T K I) Q := by
  refine gI_R (by decide) (Nat.le_of_ble_eq_true rfl) ?_
  intro p e s m args below meth c A Qg F hK hA ret H locs ls hl hP hS
  have F : CallFix p m c cX3_count 2 s args gT RX3 := F
  have hl : lv_has ls 2 [(0, .ref (aO 0)), (1, .int (iI x1))] := hl
  refine lv_iload_n F.1 F.2.1 dX3_count_0 rfl (lv_at hl 1 rfl) ?_
  obtain ⟨g1, h⟩ := h
  by_cases c2 : x1 = 0
  · have h := h.1 c2
    refine gv_tableIn (tgt := 48) (off := 47) F g1 c2 (by decide) (by decide) dX3_count_1 rfl (by decide) ?_
    refine lv_aload_n F.1 F.2.1 dX3_count_48 rfl (lv_at hl 0 rfl) ?_
    refine gv_get F hin3 hK hP 0 rfl rfl 0 (by decide) k188 rfl dX3_count_49 ?_
    refine gv_get F hin1 hK (cp_gh_N hP) 0 rfl rfl 2 (by decide) k121 rfl dX3_count_52 ?_
    exact ret (N 0 2) H locs 55 ls h rfl hS dX3_count_55
  by_cases c3 : x1 = 1
  · have h := h.2.1 c3
    refine gv_tableIn (tgt := 56) (off := 55) F g1 c3 (by decide) (by decide) dX3_count_1 rfl (by decide) ?_
    refine lv_aload_n F.1 F.2.1 dX3_count_56 rfl (lv_at hl 0 rfl) ?_
    refine gv_get F hin3 hK hP 0 rfl rfl 0 (by decide) k188 rfl dX3_count_57 ?_
    refine gv_get F hin1 hK (cp_gh_N hP) 0 rfl rfl 7 (by decide) k131 rfl dX3_count_60 ?_
    exact ret (N 0 7) H locs 63 ls h rfl hS dX3_count_63
  by_cases c4 : x1 = 2
  · have h := h.2.2.1 c4
    refine gv_tableIn (tgt := 64) (off := 63) F g1 c4 (by decide) (by decide) dX3_count_1 rfl (by decide) ?_
    refine lv_aload_n F.1 F.2.1 dX3_count_64 rfl (lv_at hl 0 rfl) ?_
    refine gv_get F hin3 hK hP 0 rfl rfl 0 (by decide) k188 rfl dX3_count_65 ?_
    refine gv_get F hin1 hK (cp_gh_N hP) 0 rfl rfl 0 (by decide) k117 rfl dX3_count_68 ?_
    refine gc_VR (As := []) F hK hA hP hS (cp_gh_Nr hP) (c_X2_doors l D cy (fun k => aN (k + 1)) (N 2) (N 3) _ h) (cwV 0 F.2.2.2.2 (gG_V k741 k742 k743 k63 k744) rfl rfl rfl hd_X2_doors ⟨Nat.le_of_ble_eq_true rfl, Nat.le_of_ble_eq_true rfl⟩) rfl rfl dX3_count_71 rfl rfl hl.1 (Nat.le_of_ble_eq_true rfl) ⟨Nat.le_of_ble_eq_true rfl, Nat.le_of_ble_eq_true rfl⟩ (fun u5 H locs h hP hS => ?_)
    exact ret u5 H locs 74 ls h rfl hS dX3_count_74
  by_cases c6 : x1 = 3
  · have h := h.2.2.2.1 c6
    refine gv_tableIn (tgt := 75) (off := 74) F g1 c6 (by decide) (by decide) dX3_count_1 rfl (by decide) ?_
    refine lv_aload_n F.1 F.2.1 dX3_count_75 rfl (lv_at hl 0 rfl) ?_
    refine gv_get F hin3 hK hP 0 rfl rfl 0 (by decide) k188 rfl dX3_count_76 ?_
    refine gv_get F hin1 hK (cp_gh_N hP) 0 rfl rfl 1 (by decide) k119 rfl dX3_count_79 ?_
    exact ret (N 0 1) H locs 82 ls h rfl hS dX3_count_82
  by_cases c7 : x1 = 4
  · have h := h.2.2.2.2.1 c7
    refine gv_tableIn (tgt := 83) (off := 82) F g1 c7 (by decide) (by decide) dX3_count_1 rfl (by decide) ?_
    refine lv_aload_n F.1 F.2.1 dX3_count_83 rfl (lv_at hl 0 rfl) ?_
    refine gv_get F hin3 hK hP 0 rfl rfl 0 (by decide) k188 rfl dX3_count_84 ?_
    refine gc_VR (As := []) F hK hA hP hS (cp_gh_N hP) (c_X1_answersOfAll l D cy aN N _ h) (cwV 0 F.2.2.2.2 (gG_V k745 k746 k747 k62 k748) rfl rfl rfl hd_X1_answersOfAll ⟨Nat.le_of_ble_eq_true rfl, Nat.le_of_ble_eq_true rfl⟩) rfl rfl dX3_count_87 rfl rfl hl.1 (Nat.le_of_ble_eq_true rfl) ⟨Nat.le_of_ble_eq_true rfl, Nat.le_of_ble_eq_true rfl⟩ (fun u8 H locs h hP hS => ?_)
    exact ret u8 H locs 90 ls h rfl hS dX3_count_90
  by_cases c9 : x1 = 5
  · have h := h.2.2.2.2.2.1 c9
    refine gv_tableIn (tgt := 91) (off := 90) F g1 c9 (by decide) (by decide) dX3_count_1 rfl (by decide) ?_
    refine lv_aload_n F.1 F.2.1 dX3_count_91 rfl (lv_at hl 0 rfl) ?_
    refine gv_get F hin3 hK hP 0 rfl rfl 0 (by decide) k188 rfl dX3_count_92 ?_
    refine gc_VR (As := []) F hK hA hP hS (cp_gh_N hP) (c_X1_rightOfAll l D cy aN N _ h) (cwV 0 F.2.2.2.2 (gG_V k523 k524 k525 k62 k526) rfl rfl rfl hd_X1_rightOfAll ⟨Nat.le_of_ble_eq_true rfl, Nat.le_of_ble_eq_true rfl⟩) rfl rfl dX3_count_95 rfl rfl hl.1 (Nat.le_of_ble_eq_true rfl) ⟨Nat.le_of_ble_eq_true rfl, Nat.le_of_ble_eq_true rfl⟩ (fun u10 H locs h hP hS => ?_)
    exact ret u10 H locs 98 ls h rfl hS dX3_count_98
  by_cases c11 : x1 = 6
  · have h := h.2.2.2.2.2.2.1 c11
    refine gv_tableIn (tgt := 99) (off := 98) F g1 c11 (by decide) (by decide) dX3_count_1 rfl (by decide) ?_
    refine lv_aload_n F.1 F.2.1 dX3_count_99 rfl (lv_at hl 0 rfl) ?_
    refine gv_get F hin3 hK hP 0 rfl rfl 7 (by decide) k195 rfl dX3_count_100 ?_
    exact ret (o 7) H locs 103 ls h rfl hS dX3_count_103
  by_cases c12 : x1 = 7
  · have h := h.2.2.2.2.2.2.2.1 c12
    refine gv_tableIn (tgt := 104) (off := 103) F g1 c12 (by decide) (by decide) dX3_count_1 rfl (by decide) ?_
    refine lv_aload_n F.1 F.2.1 dX3_count_104 rfl (lv_at hl 0 rfl) ?_
    refine gv_get F hin3 hK hP 0 rfl rfl 5 (by decide) k193 rfl dX3_count_105 ?_
    refine gc_VR (As := []) F hK hA hP hS (cp_gh_L hP) (c_X0_length l D cy aL lg sg _ h) (cwV 0 F.2.2.2.2 (gG_V k358 k359 k360 k66 k361) rfl rfl rfl hd_X0_length ⟨Nat.le_of_ble_eq_true rfl, Nat.le_of_ble_eq_true rfl⟩) rfl rfl dX3_count_108 rfl rfl hl.1 (Nat.le_of_ble_eq_true rfl) ⟨Nat.le_of_ble_eq_true rfl, Nat.le_of_ble_eq_true rfl⟩ (fun u13 H locs h hP hS => ?_)
    exact ret u13 H locs 111 ls h rfl hS dX3_count_111
  have cd : x1 < 0 ∨ 7 < x1 := by omega
  have h := h.2.2.2.2.2.2.2.2 cd
  refine gv_tableOut (tgt := 112) F g1 cd dX3_count_1 (by decide) ?_
  refine lv_iload_n F.1 F.2.1 dX3_count_112 rfl (lv_at hl 1 rfl) ?_
  refine gv_bipush F ⟨by decide, by decide⟩ dX3_count_113 ?_
  refine gv_icmp_lt (tgt := 136) F g1 ⟨by decide, by decide⟩ dX3_count_115 (by decide) (fun c14 => ?_) (fun c14 => ?_)
  · have h := h.1 c14
    refine gv_bipush F ⟨by decide, by decide⟩ dX3_count_136 ?_
    exact ret (-9) H locs 138 ls h rfl hS dX3_count_138
  · have h := h.2 c14
    refine lv_iload_n F.1 F.2.1 dX3_count_118 rfl (lv_at hl 1 rfl) ?_
    refine gv_bipush F ⟨by decide, by decide⟩ dX3_count_119 ?_
    refine gv_icmp_gt (tgt := 136) F g1 ⟨by decide, by decide⟩ dX3_count_121 (by decide) (fun c15 => ?_) (fun c15 => ?_)
    · have h := h.1 c15
      refine gv_bipush F ⟨by decide, by decide⟩ dX3_count_136 ?_
      exact ret (-9) H locs 138 ls h rfl hS dX3_count_138
    · have h := h.2 c15
      refine lv_aload_n F.1 F.2.1 dX3_count_124 rfl (lv_at hl 0 rfl) ?_
      refine gv_get F hin3 hK hP 0 rfl rfl 8 (by decide) k196 rfl dX3_count_125 ?_
      refine lv_iload_n F.1 F.2.1 dX3_count_128 rfl (lv_at hl 1 rfl) ?_
      refine gv_bipush F ⟨by decide, by decide⟩ dX3_count_129 ?_
      refine gv_isub F dX3_count_131 ?_
      obtain ⟨g16, h⟩ := h
      refine gv_iald (n := 7) (g := rf) F hK hP 2 rfl rfl (by decide) g16 dX3_count_132 ?_
      refine lv_goto (tgt := 138) F.1 F.2.1 dX3_count_133 (by decide) ?_
      exact ret (rf (x1 - 10)) H locs 138 ls h rfl hS dX3_count_138
