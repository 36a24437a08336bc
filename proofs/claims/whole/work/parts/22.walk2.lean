abbrev rX2_towards : Room := { frames := 0, cells := 0, slots := 0, locals := 0 }
set_option maxHeartbeats 4000000 in
set_option maxRecDepth 20000 in
theorem c_X2_towards (l : Launch) (D : va_G) (cy : ClassId) (ad : Nat → Nat) (op : AR) (fa : AR) (x1 x2 : Int) (Q : Int → Prop) (h : wX2_towards op fa x1 x2 Q) : MetR l yX2_towards (wT yX2_towards cX2_towards 5 (some .int)) rX2_towards D cy [.ref (ad 0), .int (iI x1), .int (iI x2)] (wRo cy ad op fa) Q := by
  refine gI_R (by decide) (Nat.le_of_ble_eq_true rfl) ?_
  intro p e s m args below meth c A Qg F hK hA ret H locs ls hl hP hS
  have F : CallFix p m c cX2_towards 5 s args gT RX2 := F
  have hl : lv_has ls 5 [(0, .ref (ad 0)), (1, .int (iI x1)), (2, .int (iI x2))] := hl
  have L15 : ∀ (n : Nat) (y1 : Int) (y2 : Int) (y3 : Int) (y4 : Int) (H : Heap) (locs : List Loc) (ls : Array Slot), wX2_towards_15 op fa Q n y1 y2 y3 y4 → va_P D vwCl (wRo cy ad op fa) H → va_S A s.heap H locs → lv_has ls 5 [(0, .ref (ad 0)), (1, .int (iI y1)), (2, .int (iI y2)), (3, .int (iI y3)), (4, .int (iI y4))] → W p l e rX2_towards s m args below meth c H locs 0 0 Qg (F0 m 15 ls []) := by
    intro  n
    induction n with
    | zero => intro _ _ _ _ _ _ _ h; exact h.elim
    | succ n ih =>
      intro y1 y2 y3 y4 H locs ls h hP hS hl
      rw [wX2_towards_15_s] at h
      refine lv_iload F.1 F.2.1 dX2_towards_15 (lv_at hl 4 rfl) ?_
      refine gv_bipush F ⟨by decide, by decide⟩ dX2_towards_17 ?_
      obtain ⟨g1, h⟩ := h
      refine gv_icmp_ge (tgt := 63) F g1 ⟨by decide, by decide⟩ dX2_towards_19 (by decide) (fun c2 => ?_) (fun c2 => ?_)
      · have h := h.1 c2
        refine lv_iload_n F.1 F.2.1 dX2_towards_63 rfl (lv_at hl 1 rfl) ?_
        exact ret y1 H locs 64 ls h rfl hS dX2_towards_64
      · have h := h.2 c2
        refine lv_aload_n F.1 F.2.1 dX2_towards_22 rfl (lv_at hl 0 rfl) ?_
        refine gv_get F hin2 hK hP 0 rfl rfl 0 (by decide) k105 rfl dX2_towards_23 ?_
        refine lv_iload_n F.1 F.2.1 dX2_towards_26 rfl (lv_at hl 1 rfl) ?_
        refine gv_bipush F ⟨by decide, by decide⟩ dX2_towards_27 ?_
        refine gv_imul F dX2_towards_29 ?_
        refine lv_iload F.1 F.2.1 dX2_towards_30 (lv_at hl 4 rfl) ?_
        refine gv_iadd F dX2_towards_32 ?_
        obtain ⟨g3, h⟩ := h
        refine gv_iald (n := 49) (g := op) F hK hP 1 rfl rfl (by decide) g3 dX2_towards_33 ?_
        refine gv_iconst F dX2_towards_34 ?_
        obtain ⟨g4, h⟩ := h
        refine gv_icmp_ne (tgt := 57) F g4 ⟨by decide, by decide⟩ dX2_towards_35 (by decide) (fun c5 => ?_) (fun c5 => ?_)
        · have h := h.1 c5
          obtain ⟨v6, ev6⟩ : ∃ z : Int, z = y4 + 1 := ⟨_, rfl⟩
          have h := h v6 ev6
          refine gv_iinc (lv' := [(4, .int (iI v6)), (0, .ref (ad 0)), (1, .int (iI y1)), (2, .int (iI y2)), (3, .int (iI y3))]) F dX2_towards_57 hl (k := 4) rfl ev6 (by decide) rfl (fun ls hl => ?_)
          refine lv_goto (tgt := 15) F.1 F.2.1 dX2_towards_60 (by decide) ?_
          exact ih y1 y2 y3 v6 H locs ls h hP hS (lv_sub hl [1, 2, 3, 4, 0] rfl)
        · have h := h.2 c5
          refine lv_aload_n F.1 F.2.1 dX2_towards_38 rfl (lv_at hl 0 rfl) ?_
          refine gv_get F hin2 hK hP 0 rfl rfl 1 (by decide) k106 rfl dX2_towards_39 ?_
          refine lv_iload F.1 F.2.1 dX2_towards_42 (lv_at hl 4 rfl) ?_
          refine gv_bipush F ⟨by decide, by decide⟩ dX2_towards_44 ?_
          refine gv_imul F dX2_towards_46 ?_
          refine lv_iload_n F.1 F.2.1 dX2_towards_47 rfl (lv_at hl 2 rfl) ?_
          refine gv_iadd F dX2_towards_48 ?_
          obtain ⟨g7, h⟩ := h
          refine gv_iald (n := 49) (g := fa) F hK hP 2 rfl rfl (by decide) g7 dX2_towards_49 ?_
          refine lv_iload_n F.1 F.2.1 dX2_towards_50 rfl (lv_at hl 3 rfl) ?_
          obtain ⟨g8, h⟩ := h
          obtain ⟨g9, h⟩ := h
          refine gv_icmp_ge (tgt := 57) F g8 g9 dX2_towards_51 (by decide) (fun c10 => ?_) (fun c10 => ?_)
          · have h := h.1 c10
            obtain ⟨v11, ev11⟩ : ∃ z : Int, z = y4 + 1 := ⟨_, rfl⟩
            have h := h v11 ev11
            refine gv_iinc (lv' := [(4, .int (iI v11)), (0, .ref (ad 0)), (1, .int (iI y1)), (2, .int (iI y2)), (3, .int (iI y3))]) F dX2_towards_57 hl (k := 4) rfl ev11 (by decide) rfl (fun ls hl => ?_)
            refine lv_goto (tgt := 15) F.1 F.2.1 dX2_towards_60 (by decide) ?_
            exact ih y1 y2 y3 v11 H locs ls h hP hS (lv_sub hl [1, 2, 3, 4, 0] rfl)
          · have h := h.2 c10
            refine lv_iload F.1 F.2.1 dX2_towards_54 (lv_at hl 4 rfl) ?_
            exact ret y4 H locs 56 ls h rfl hS dX2_towards_56
  refine lv_aload_n F.1 F.2.1 dX2_towards_0 rfl (lv_at hl 0 rfl) ?_
  refine gv_get F hin2 hK hP 0 rfl rfl 1 (by decide) k106 rfl dX2_towards_1 ?_
  refine lv_iload_n F.1 F.2.1 dX2_towards_4 rfl (lv_at hl 1 rfl) ?_
  refine gv_bipush F ⟨by decide, by decide⟩ dX2_towards_5 ?_
  refine gv_imul F dX2_towards_7 ?_
  refine lv_iload_n F.1 F.2.1 dX2_towards_8 rfl (lv_at hl 2 rfl) ?_
  refine gv_iadd F dX2_towards_9 ?_
  obtain ⟨g12, h⟩ := h
  refine gv_iald (n := 49) (g := fa) F hK hP 2 rfl rfl (by decide) g12 dX2_towards_10 ?_
  refine gv_name (fun v13 ev13 => ?_)
  have h := h v13 ev13
  refine lv_istore_n (lv' := [(3, .int (iI v13)), (0, .ref (ad 0)), (1, .int (iI x1)), (2, .int (iI x2))]) F.1 F.2.1 dX2_towards_11 rfl hl (by decide) rfl (fun ls hl => ?_)
  refine gv_iconst F dX2_towards_12 ?_
  refine lv_istore (lv' := [(4, .int (iI 0)), (3, .int (iI v13)), (0, .ref (ad 0)), (1, .int (iI x1)), (2, .int (iI x2))]) F.1 F.2.1 dX2_towards_13 hl (by decide) rfl (fun ls hl => ?_)
  obtain ⟨n14, h⟩ := h
  exact L15 n14 x1 x2 v13 0 H locs ls h hP hS (lv_sub hl [2, 3, 4, 1, 0] rfl)
abbrev rX2_isOpen : Room := { frames := 0, cells := 0, slots := 0, locals := 0 }
set_option maxHeartbeats 4000000 in
set_option maxRecDepth 20000 in
theorem c_X2_isOpen (l : Launch) (D : va_G) (cy : ClassId) (ad : Nat → Nat) (op : AR) (fa : AR) (x1 x2 : Int) (Q : Int → Prop) (h : wX2_isOpen op x1 x2 Q) : MetR l yX2_isOpen (wT yX2_isOpen cX2_isOpen 3 (some .boolean)) rX2_isOpen D cy [.ref (ad 0), .int (iI x1), .int (iI x2)] (wRo cy ad op fa) (fun u => (u = 0 ∨ u = 1) ∧ Q u) := by
  refine gI_R (by decide) (Nat.le_of_ble_eq_true rfl) ?_
  intro p e s m args below meth c A Qg F hK hA ret H locs ls hl hP hS
  have F : CallFix p m c cX2_isOpen 3 s args gT RX2 := F
  have hl : lv_has ls 3 [(0, .ref (ad 0)), (1, .int (iI x1)), (2, .int (iI x2))] := hl
  refine lv_aload_n F.1 F.2.1 dX2_isOpen_0 rfl (lv_at hl 0 rfl) ?_
  refine gv_get F hin2 hK hP 0 rfl rfl 0 (by decide) k105 rfl dX2_isOpen_1 ?_
  refine lv_iload_n F.1 F.2.1 dX2_isOpen_4 rfl (lv_at hl 1 rfl) ?_
  refine gv_bipush F ⟨by decide, by decide⟩ dX2_isOpen_5 ?_
  refine gv_imul F dX2_isOpen_7 ?_
  refine lv_iload_n F.1 F.2.1 dX2_isOpen_8 rfl (lv_at hl 2 rfl) ?_
  refine gv_iadd F dX2_isOpen_9 ?_
  obtain ⟨g1, h⟩ := h
  refine gv_iald (n := 49) (g := op) F hK hP 1 rfl rfl (by decide) g1 dX2_isOpen_10 ?_
  refine gv_iconst F dX2_isOpen_11 ?_
  obtain ⟨g2, h⟩ := h
  refine gv_icmp_ne (tgt := 19) F g2 ⟨by decide, by decide⟩ dX2_isOpen_12 (by decide) (fun c3 => ?_) (fun c3 => ?_)
  · have h := h.1 c3
    refine gv_iconst F dX2_isOpen_19 ?_
    exact ret 0 H locs 20 ls ⟨Or.inl rfl, h⟩ rfl hS dX2_isOpen_20
  · have h := h.2 c3
    refine gv_iconst F dX2_isOpen_15 ?_
    refine lv_goto (tgt := 20) F.1 F.2.1 dX2_isOpen_16 (by decide) ?_
    exact ret 1 H locs 20 ls ⟨Or.inr rfl, h⟩ rfl hS dX2_isOpen_20
abbrev rX2_shortenBy : Room := { frames := 1, cells := 0, slots := 0, locals := 21 }
set_option maxHeartbeats 4000000 in
set_option maxRecDepth 20000 in
theorem c_X2_shortenBy (l : Launch) (D : va_G) (cy : ClassId) (ad : Nat → Nat) (op : AR) (fa : AR) (x1 : Int) (Q : AR → Prop) (h : wX2_shortenBy fa x1 Q) : MetV l yX2_shortenBy (wT yX2_shortenBy cX2_shortenBy 5 none) rX2_shortenBy D cy [.ref (ad 0), .int (iI x1)] (wRo cy ad op fa) (fun u : AR => wRo cy ad op u) (fun u => Q u) := by
  refine gI_V (by decide) (Nat.le_of_ble_eq_true rfl) ?_
  intro p e s m args below meth c A Qg F hK hA ret H locs ls hl hP hD hS
  have F : CallFix p m c cX2_shortenBy 5 s args gT RX2 := F
  have hl : lv_has ls 5 [(0, .ref (ad 0)), (1, .int (iI x1))] := hl
  have L10 : ∀ (K2 : Int → Int → AR → Prop) (hK2 : ∀ (y1 : Int) (y2 : Int) (fa : AR) (H : Heap) (locs : List Loc) (ls : Array Slot), K2 y1 y2 fa → va_P D vwCl (wRo cy ad op fa) H → va_D A (wRo cy ad op fa) → va_S A s.heap H locs → lv_has ls 5 [(0, .ref (ad 0)), (1, .int (iI y1)), (2, .int (iI y2))] → W p l e rX2_shortenBy s m args below meth c H locs 0 0 Qg (F0 m 2 ls [])) (n : Nat) (y1 : Int) (y2 : Int) (y3 : Int) (fa : AR) (H : Heap) (locs : List Loc) (ls : Array Slot), wX2_shortenBy_10 K2 Q n y1 y2 y3 fa → va_P D vwCl (wRo cy ad op fa) H → va_D A (wRo cy ad op fa) → va_S A s.heap H locs → lv_has ls 5 [(0, .ref (ad 0)), (1, .int (iI y1)), (2, .int (iI y2)), (3, .int (iI y3))] → W p l e rX2_shortenBy s m args below meth c H locs 0 0 Qg (F0 m 10 ls []) := by
    intro K2 hK2 n
    induction n with
    | zero => intro _ _ _ _ _ _ _ h; exact h.elim
    | succ n ih =>
      intro y1 y2 y3 fa H locs ls h hP hD hS hl
      rw [wX2_shortenBy_10_s] at h
      refine lv_iload_n F.1 F.2.1 dX2_shortenBy_10 rfl (lv_at hl 3 rfl) ?_
      refine gv_bipush F ⟨by decide, by decide⟩ dX2_shortenBy_11 ?_
      obtain ⟨g1, h⟩ := h
      refine gv_icmp_ge (tgt := 74) F g1 ⟨by decide, by decide⟩ dX2_shortenBy_13 (by decide) (fun c2 => ?_) (fun c2 => ?_)
      · have h := h.1 c2
        obtain ⟨v3, ev3⟩ : ∃ z : Int, z = y2 + 1 := ⟨_, rfl⟩
        have h := h v3 ev3
        refine gv_iinc (lv' := [(2, .int (iI v3)), (0, .ref (ad 0)), (1, .int (iI y1)), (3, .int (iI y3))]) F dX2_shortenBy_74 hl (k := 2) rfl ev3 (by decide) rfl (fun ls hl => ?_)
        refine lv_goto (tgt := 2) F.1 F.2.1 dX2_shortenBy_77 (by decide) ?_
        exact hK2 y1 v3 fa H locs ls h hP hD hS (lv_sub hl [1, 2, 0] rfl)
      · have h := h.2 c2
        refine lv_aload_n F.1 F.2.1 dX2_shortenBy_16 rfl (lv_at hl 0 rfl) ?_
        refine gv_get F hin2 hK hP 0 rfl rfl 1 (by decide) k106 rfl dX2_shortenBy_17 ?_
        refine lv_iload_n F.1 F.2.1 dX2_shortenBy_20 rfl (lv_at hl 2 rfl) ?_
        refine gv_bipush F ⟨by decide, by decide⟩ dX2_shortenBy_21 ?_
        refine gv_imul F dX2_shortenBy_23 ?_
        refine lv_iload_n F.1 F.2.1 dX2_shortenBy_24 rfl (lv_at hl 1 rfl) ?_
        refine gv_iadd F dX2_shortenBy_25 ?_
        obtain ⟨g4, h⟩ := h
        refine gv_iald (n := 49) (g := fa) F hK hP 2 rfl rfl (by decide) g4 dX2_shortenBy_26 ?_
        refine lv_aload_n F.1 F.2.1 dX2_shortenBy_27 rfl (lv_at hl 0 rfl) ?_
        refine gv_get F hin2 hK hP 0 rfl rfl 1 (by decide) k106 rfl dX2_shortenBy_28 ?_
        refine lv_iload_n F.1 F.2.1 dX2_shortenBy_31 rfl (lv_at hl 1 rfl) ?_
        refine gv_bipush F ⟨by decide, by decide⟩ dX2_shortenBy_32 ?_
        refine gv_imul F dX2_shortenBy_34 ?_
        refine lv_iload_n F.1 F.2.1 dX2_shortenBy_35 rfl (lv_at hl 3 rfl) ?_
        refine gv_iadd F dX2_shortenBy_36 ?_
        obtain ⟨g5, h⟩ := h
        refine gv_iald (n := 49) (g := fa) F hK hP 2 rfl rfl (by decide) g5 dX2_shortenBy_37 ?_
        refine gv_iadd F dX2_shortenBy_38 ?_
        refine gv_name (fun v6 ev6 => ?_)
        have h := h v6 ev6
        refine lv_istore (lv' := [(4, .int (iI v6)), (0, .ref (ad 0)), (1, .int (iI y1)), (2, .int (iI y2)), (3, .int (iI y3))]) F.1 F.2.1 dX2_shortenBy_39 hl (by decide) rfl (fun ls hl => ?_)
        refine lv_aload_n F.1 F.2.1 dX2_shortenBy_41 rfl (lv_at hl 1 rfl) ?_
        refine gv_get F hin2 hK hP 0 rfl rfl 1 (by decide) k106 rfl dX2_shortenBy_42 ?_
        refine lv_iload_n F.1 F.2.1 dX2_shortenBy_45 rfl (lv_at hl 3 rfl) ?_
        refine gv_bipush F ⟨by decide, by decide⟩ dX2_shortenBy_46 ?_
        refine gv_imul F dX2_shortenBy_48 ?_
        refine lv_iload_n F.1 F.2.1 dX2_shortenBy_49 rfl (lv_at hl 4 rfl) ?_
        refine gv_iadd F dX2_shortenBy_50 ?_
        refine lv_aload_n F.1 F.2.1 dX2_shortenBy_51 rfl (lv_at hl 1 rfl) ?_
        refine gv_get F hin2 hK hP 0 rfl rfl 1 (by decide) k106 rfl dX2_shortenBy_52 ?_
        refine lv_iload_n F.1 F.2.1 dX2_shortenBy_55 rfl (lv_at hl 3 rfl) ?_
        refine gv_bipush F ⟨by decide, by decide⟩ dX2_shortenBy_56 ?_
        refine gv_imul F dX2_shortenBy_58 ?_
        refine lv_iload_n F.1 F.2.1 dX2_shortenBy_59 rfl (lv_at hl 4 rfl) ?_
        refine gv_iadd F dX2_shortenBy_60 ?_
        obtain ⟨g7, h⟩ := h
        refine gv_iald (n := 49) (g := fa) F hK hP 2 rfl rfl (by decide) g7 dX2_shortenBy_61 ?_
        refine lv_iload F.1 F.2.1 dX2_shortenBy_62 (lv_at hl 0 rfl) ?_
        obtain ⟨g8, h⟩ := h
        obtain ⟨g9, h⟩ := h
        refine gv_mmin F k102 g8 g9 hl.1 (Nat.le_of_ble_eq_true rfl) (Nat.le_of_ble_eq_true rfl) ⟨Nat.le_of_ble_eq_true rfl, Nat.le_of_ble_eq_true rfl⟩ dX2_shortenBy_64 k103 k64 k104 ?_
        obtain ⟨g10, h⟩ := h
        obtain ⟨z11, ez11⟩ : ∃ z : AR, z = su fa ((y2 * 7) + y3) (min (fa ((y2 * 7) + y3)) v6) := ⟨_, rfl⟩
        have h := h z11 ez11
        refine gv_iast (n := 49) (g := fa) (ws' := wRo cy ad op z11) F hK hP hD hS 2 rfl rfl (by decide) g10 (by subst ez11; exact rfl) dX2_shortenBy_67 (fun H locs hP hD hS => ?_)
        obtain ⟨v12, ev12⟩ : ∃ z : Int, z = y3 + 1 := ⟨_, rfl⟩
        have h := h v12 ev12
        refine gv_iinc (lv' := [(3, .int (iI v12)), (4, .int (iI v6)), (0, .ref (ad 0)), (1, .int (iI y1)), (2, .int (iI y2))]) F dX2_shortenBy_68 hl (k := 4) rfl ev12 (by decide) rfl (fun ls hl => ?_)
        refine lv_goto (tgt := 10) F.1 F.2.1 dX2_shortenBy_71 (by decide) ?_
        exact ih y1 y2 v12 z11 H locs ls h hP hD hS (lv_sub hl [2, 3, 4, 0] rfl)
  have L2 : ∀ (n : Nat) (y1 : Int) (y2 : Int) (fa : AR) (H : Heap) (locs : List Loc) (ls : Array Slot), wX2_shortenBy_2 Q n y1 y2 fa → va_P D vwCl (wRo cy ad op fa) H → va_D A (wRo cy ad op fa) → va_S A s.heap H locs → lv_has ls 5 [(0, .ref (ad 0)), (1, .int (iI y1)), (2, .int (iI y2))] → W p l e rX2_shortenBy s m args below meth c H locs 0 0 Qg (F0 m 2 ls []) := by
    intro  n
    induction n with
    | zero => intro _ _ _ _ _ _ h; exact h.elim
    | succ n ih =>
      intro y1 y2 fa H locs ls h hP hD hS hl
      rw [wX2_shortenBy_2_s] at h
      refine lv_iload_n F.1 F.2.1 dX2_shortenBy_2 rfl (lv_at hl 2 rfl) ?_
      refine gv_bipush F ⟨by decide, by decide⟩ dX2_shortenBy_3 ?_
      obtain ⟨g13, h⟩ := h
      refine gv_icmp_ge (tgt := 80) F g13 ⟨by decide, by decide⟩ dX2_shortenBy_5 (by decide) (fun c14 => ?_) (fun c14 => ?_)
      · have h := h.1 c14
        exact ret fa H locs 80 ls h hP hD hS dX2_shortenBy_80
      · have h := h.2 c14
        refine gv_iconst F dX2_shortenBy_8 ?_
        refine lv_istore_n (lv' := [(3, .int (iI 0)), (0, .ref (ad 0)), (1, .int (iI y1)), (2, .int (iI y2))]) F.1 F.2.1 dX2_shortenBy_9 rfl hl (by decide) rfl (fun ls hl => ?_)
        obtain ⟨n15, h⟩ := h
        exact L10 _ ih n15 y1 y2 0 fa H locs ls h hP hD hS (lv_sub hl [1, 2, 3, 0] rfl)
  refine gv_iconst F dX2_shortenBy_0 ?_
  refine lv_istore_n (lv' := [(2, .int (iI 0)), (0, .ref (ad 0)), (1, .int (iI x1))]) F.1 F.2.1 dX2_shortenBy_1 rfl hl (by decide) rfl (fun ls hl => ?_)
  obtain ⟨n16, h⟩ := h
  exact L2 n16 x1 0 fa H locs ls h hP hD hS (lv_sub hl [1, 2, 0] rfl)
abbrev rX2_measure : Room := { frames := 2, cells := 0, slots := 0, locals := 45 }
set_option maxHeartbeats 4000000 in
set_option maxRecDepth 20000 in
theorem c_X2_measure (l : Launch) (D : va_G) (cy : ClassId) (ad : Nat → Nat) (op : AR) (fa : AR) (Q : AR → Prop) (h : wX2_measure op fa Q) : MetV l yX2_measure (wT yX2_measure cX2_measure 2 none) rX2_measure D cy [.ref (ad 0)] (wRo cy ad op fa) (fun u : AR => wRo cy ad op u) (fun u => Q u) := by
  refine gI_V (by decide) (Nat.le_of_ble_eq_true rfl) ?_
  intro p e s m args below meth c A Qg F hK hA ret H locs ls hl hP hD hS
  have F : CallFix p m c cX2_measure 2 s args gT RX2 := F
  have hl : lv_has ls 2 [(0, .ref (ad 0))] := hl
  have L68 : ∀ (n : Nat) (y1 : Int) (fa : AR) (H : Heap) (locs : List Loc) (ls : Array Slot), wX2_measure_68 op Q n y1 fa → va_P D vwCl (wRo cy ad op fa) H → va_D A (wRo cy ad op fa) → va_S A s.heap H locs → lv_has ls 2 [(0, .ref (ad 0)), (1, .int (iI y1))] → W p l e rX2_measure s m args below meth c H locs 0 0 Qg (F0 m 68 ls []) := by
    intro  n
    induction n with
    | zero => intro _ _ _ _ _ h; exact h.elim
    | succ n ih =>
      intro y1 fa H locs ls h hP hD hS hl
      rw [wX2_measure_68_s] at h
      refine lv_iload_n F.1 F.2.1 dX2_measure_68 rfl (lv_at hl 1 rfl) ?_
      refine gv_bipush F ⟨by decide, by decide⟩ dX2_measure_69 ?_
      obtain ⟨g1, h⟩ := h
      refine gv_icmp_ge (tgt := 85) F g1 ⟨by decide, by decide⟩ dX2_measure_71 (by decide) (fun c2 => ?_) (fun c2 => ?_)
      · have h := h.1 c2
        exact ret fa H locs 85 ls h hP hD hS dX2_measure_85
      · have h := h.2 c2
        refine lv_aload_n F.1 F.2.1 dX2_measure_74 rfl (lv_at hl 0 rfl) ?_
        refine lv_iload_n F.1 F.2.1 dX2_measure_75 rfl (lv_at hl 1 rfl) ?_
        refine gc_VV (As := [.int (iI y1)]) (wn := fun u : AR => wRo cy ad op u) F hK hA hP hD hS hP hD (fun u H1 _ h1 h2 => ⟨h1, h2⟩) (c_X2_shortenBy l D cy ad op fa y1 _ h) (cwV 1 F.2.2.2.2 (gG_V k98 k100 k1 k63 k101) rfl rfl rfl hd_X2_shortenBy ⟨Nat.le_of_ble_eq_true rfl, Nat.le_of_ble_eq_true rfl⟩) rfl rfl dX2_measure_76 rfl rfl hl.1 (Nat.le_of_ble_eq_true rfl) ⟨Nat.le_of_ble_eq_true rfl, Nat.le_of_ble_eq_true rfl⟩ (fun z3 H locs h hP hD hS => ?_)
        try dsimp only at h hP hD
        obtain ⟨v4, ev4⟩ : ∃ z : Int, z = y1 + 1 := ⟨_, rfl⟩
        have h := h v4 ev4
        refine gv_iinc (lv' := [(1, .int (iI v4)), (0, .ref (ad 0))]) F dX2_measure_79 hl (k := 1) rfl ev4 (by decide) rfl (fun ls hl => ?_)
        refine lv_goto (tgt := 68) F.1 F.2.1 dX2_measure_82 (by decide) ?_
        exact ih v4 z3 H locs ls h hP hD hS (lv_sub hl [1, 0] rfl)
  have L42 : ∀ (n : Nat) (y1 : Int) (fa : AR) (H : Heap) (locs : List Loc) (ls : Array Slot), wX2_measure_42 op Q n y1 fa → va_P D vwCl (wRo cy ad op fa) H → va_D A (wRo cy ad op fa) → va_S A s.heap H locs → lv_has ls 2 [(0, .ref (ad 0)), (1, .int (iI y1))] → W p l e rX2_measure s m args below meth c H locs 0 0 Qg (F0 m 42 ls []) := by
    intro  n
    induction n with
    | zero => intro _ _ _ _ _ h; exact h.elim
    | succ n ih =>
      intro y1 fa H locs ls h hP hD hS hl
      rw [wX2_measure_42_s] at h
      refine lv_iload_n F.1 F.2.1 dX2_measure_42 rfl (lv_at hl 1 rfl) ?_
      refine gv_bipush F ⟨by decide, by decide⟩ dX2_measure_43 ?_
      obtain ⟨g5, h⟩ := h
      refine gv_icmp_ge (tgt := 66) F g5 ⟨by decide, by decide⟩ dX2_measure_45 (by decide) (fun c6 => ?_) (fun c6 => ?_)
      · have h := h.1 c6
        refine gv_iconst F dX2_measure_66 ?_
        refine lv_istore_n (lv' := [(1, .int (iI 0)), (0, .ref (ad 0))]) F.1 F.2.1 dX2_measure_67 rfl hl (by decide) rfl (fun ls hl => ?_)
        obtain ⟨n7, h⟩ := h
        exact L68 n7 0 fa H locs ls h hP hD hS (lv_sub hl [1, 0] rfl)
      · have h := h.2 c6
        refine lv_aload_n F.1 F.2.1 dX2_measure_48 rfl (lv_at hl 0 rfl) ?_
        refine gv_get F hin2 hK hP 0 rfl rfl 1 (by decide) k106 rfl dX2_measure_49 ?_
        refine lv_iload_n F.1 F.2.1 dX2_measure_52 rfl (lv_at hl 1 rfl) ?_
        refine gv_bipush F ⟨by decide, by decide⟩ dX2_measure_53 ?_
        refine gv_imul F dX2_measure_55 ?_
        refine lv_iload_n F.1 F.2.1 dX2_measure_56 rfl (lv_at hl 1 rfl) ?_
        refine gv_iadd F dX2_measure_57 ?_
        refine gv_iconst F dX2_measure_58 ?_
        obtain ⟨g8, h⟩ := h
        obtain ⟨z9, ez9⟩ : ∃ z : AR, z = su fa ((y1 * 7) + y1) 0 := ⟨_, rfl⟩
        have h := h z9 ez9
        refine gv_iast (n := 49) (g := fa) (ws' := wRo cy ad op z9) F hK hP hD hS 2 rfl rfl (by decide) g8 (by subst ez9; exact rfl) dX2_measure_59 (fun H locs hP hD hS => ?_)
        obtain ⟨v10, ev10⟩ : ∃ z : Int, z = y1 + 1 := ⟨_, rfl⟩
        have h := h v10 ev10
        refine gv_iinc (lv' := [(1, .int (iI v10)), (0, .ref (ad 0))]) F dX2_measure_60 hl (k := 1) rfl ev10 (by decide) rfl (fun ls hl => ?_)
        refine lv_goto (tgt := 42) F.1 F.2.1 dX2_measure_63 (by decide) ?_
        exact ih v10 z9 H locs ls h hP hD hS (lv_sub hl [1, 0] rfl)
  have L2 : ∀ (n : Nat) (y1 : Int) (fa : AR) (H : Heap) (locs : List Loc) (ls : Array Slot), wX2_measure_2 op Q n y1 fa → va_P D vwCl (wRo cy ad op fa) H → va_D A (wRo cy ad op fa) → va_S A s.heap H locs → lv_has ls 2 [(0, .ref (ad 0)), (1, .int (iI y1))] → W p l e rX2_measure s m args below meth c H locs 0 0 Qg (F0 m 2 ls []) := by
    intro  n
    induction n with
    | zero => intro _ _ _ _ _ h; exact h.elim
    | succ n ih =>
      intro y1 fa H locs ls h hP hD hS hl
      rw [wX2_measure_2_s] at h
      refine lv_iload_n F.1 F.2.1 dX2_measure_2 rfl (lv_at hl 1 rfl) ?_
      refine lv_aload_n F.1 F.2.1 dX2_measure_3 rfl (lv_at hl 0 rfl) ?_
      refine gv_get F hin2 hK hP 0 rfl rfl 1 (by decide) k106 rfl dX2_measure_4 ?_
      refine gv_alen (n := 49) (N := 49) F hK hP 2 rfl rfl dX2_measure_7 ?_
      obtain ⟨g11, h⟩ := h
      refine gv_icmp_ge (tgt := 40) F g11 ⟨by decide, by decide⟩ dX2_measure_8 (by decide) (fun c12 => ?_) (fun c12 => ?_)
      · have h := h.1 c12
        refine gv_iconst F dX2_measure_40 ?_
        refine lv_istore_n (lv' := [(1, .int (iI 0)), (0, .ref (ad 0))]) F.1 F.2.1 dX2_measure_41 rfl hl (by decide) rfl (fun ls hl => ?_)
        obtain ⟨n13, h⟩ := h
        exact L42 n13 0 fa H locs ls h hP hD hS (lv_sub hl [1, 0] rfl)
      · have h := h.2 c12
        refine lv_aload_n F.1 F.2.1 dX2_measure_11 rfl (lv_at hl 0 rfl) ?_
        refine gv_get F hin2 hK hP 0 rfl rfl 1 (by decide) k106 rfl dX2_measure_12 ?_
        refine lv_iload_n F.1 F.2.1 dX2_measure_15 rfl (lv_at hl 1 rfl) ?_
        refine lv_aload_n F.1 F.2.1 dX2_measure_16 rfl (lv_at hl 0 rfl) ?_
        refine gv_get F hin2 hK hP 0 rfl rfl 0 (by decide) k105 rfl dX2_measure_17 ?_
        refine lv_iload_n F.1 F.2.1 dX2_measure_20 rfl (lv_at hl 1 rfl) ?_
        obtain ⟨g14, h⟩ := h
        refine gv_iald (n := 49) (g := op) F hK hP 1 rfl rfl (by decide) g14 dX2_measure_21 ?_
        refine gv_iconst F dX2_measure_22 ?_
        obtain ⟨g15, h⟩ := h
        refine gv_icmp_ne (tgt := 30) F g15 ⟨by decide, by decide⟩ dX2_measure_23 (by decide) (fun c16 => ?_) (fun c16 => ?_)
        · have h := h.1 c16
          refine gv_sipush F ⟨by decide, by decide⟩ dX2_measure_30 ?_
          obtain ⟨g17, h⟩ := h
          obtain ⟨z18, ez18⟩ : ∃ z : AR, z = su fa y1 1000 := ⟨_, rfl⟩
          have h := h z18 ez18
          refine gv_iast (n := 49) (g := fa) (ws' := wRo cy ad op z18) F hK hP hD hS 2 rfl rfl (by decide) g17 (by subst ez18; exact rfl) dX2_measure_33 (fun H locs hP hD hS => ?_)
          obtain ⟨v19, ev19⟩ : ∃ z : Int, z = y1 + 1 := ⟨_, rfl⟩
          have h := h v19 ev19
          refine gv_iinc (lv' := [(1, .int (iI v19)), (0, .ref (ad 0))]) F dX2_measure_34 hl (k := 1) rfl ev19 (by decide) rfl (fun ls hl => ?_)
          refine lv_goto (tgt := 2) F.1 F.2.1 dX2_measure_37 (by decide) ?_
          exact ih v19 z18 H locs ls h hP hD hS (lv_sub hl [1, 0] rfl)
        · have h := h.2 c16
          refine gv_iconst F dX2_measure_26 ?_
          refine lv_goto (tgt := 33) F.1 F.2.1 dX2_measure_27 (by decide) ?_
          obtain ⟨g20, h⟩ := h
          obtain ⟨z21, ez21⟩ : ∃ z : AR, z = su fa y1 1 := ⟨_, rfl⟩
          have h := h z21 ez21
          refine gv_iast (n := 49) (g := fa) (ws' := wRo cy ad op z21) F hK hP hD hS 2 rfl rfl (by decide) g20 (by subst ez21; exact rfl) dX2_measure_33 (fun H locs hP hD hS => ?_)
          obtain ⟨v22, ev22⟩ : ∃ z : Int, z = y1 + 1 := ⟨_, rfl⟩
          have h := h v22 ev22
          refine gv_iinc (lv' := [(1, .int (iI v22)), (0, .ref (ad 0))]) F dX2_measure_34 hl (k := 1) rfl ev22 (by decide) rfl (fun ls hl => ?_)
          refine lv_goto (tgt := 2) F.1 F.2.1 dX2_measure_37 (by decide) ?_
          exact ih v22 z21 H locs ls h hP hD hS (lv_sub hl [1, 0] rfl)
  refine gv_iconst F dX2_measure_0 ?_
  refine lv_istore_n (lv' := [(1, .int (iI 0)), (0, .ref (ad 0))]) F.1 F.2.1 dX2_measure_1 rfl hl (by decide) rfl (fun ls hl => ?_)
  obtain ⟨n23, h⟩ := h
  exact L2 n23 0 fa H locs ls h hP hD hS (lv_sub hl [1, 0] rfl)
abbrev rX2_turn : Room := { frames := 3, cells := 0, slots := 0, locals := 66 }
set_option maxHeartbeats 4000000 in
set_option maxRecDepth 20000 in
theorem c_X2_turn (l : Launch) (D : va_G) (cy : ClassId) (ad : Nat → Nat) (op : AR) (fa : AR) (x1 x2 : Int) (Q : AR → AR → Prop) (h : wX2_turn op fa x1 x2 Q) : MetV l yX2_turn (wT yX2_turn cX2_turn 4 none) rX2_turn D cy [.ref (ad 0), .int (iI x1), .int (iI x2)] (wRo cy ad op fa) (fun u : AR × AR => wRo cy ad u.1 u.2) (fun u => Q u.1 u.2) := by
  refine gI_V (by decide) (Nat.le_of_ble_eq_true rfl) ?_
  intro p e s m args below meth c A Qg F hK hA ret H locs ls hl hP hD hS
  have F : CallFix p m c cX2_turn 4 s args gT RX2 := F
  have hl : lv_has ls 4 [(0, .ref (ad 0)), (1, .int (iI x1)), (2, .int (iI x2))] := hl
  have L14 : ∀ (y1 : Int) (y2 : Int) (t0 : Int) (op : AR) (fa : AR) (H : Heap) (locs : List Loc) (ls : Array Slot), wX2_turn_14 Q y1 y2 t0 op fa → va_P D vwCl (wRo cy ad op fa) H → va_D A (wRo cy ad op fa) → va_S A s.heap H locs → lv_has ls 4 [(0, .ref (ad 0)), (1, .int (iI y1)), (2, .int (iI y2))] → W p l e rX2_turn s m args below meth c H locs 0 0 Qg (F0 m 14 ls [.int (iI t0)]) := by
    intro y1 y2 t0 op fa H locs ls h hP hD hS hl
    refine lv_istore_n (lv' := [(3, .int (iI t0)), (0, .ref (ad 0)), (1, .int (iI y1)), (2, .int (iI y2))]) F.1 F.2.1 dX2_turn_14 rfl hl (by decide) rfl (fun ls hl => ?_)
    refine lv_aload_n F.1 F.2.1 dX2_turn_15 rfl (lv_at hl 1 rfl) ?_
    refine gv_get F hin2 hK hP 0 rfl rfl 0 (by decide) k105 rfl dX2_turn_16 ?_
    refine lv_iload_n F.1 F.2.1 dX2_turn_19 rfl (lv_at hl 2 rfl) ?_
    refine gv_bipush F ⟨by decide, by decide⟩ dX2_turn_20 ?_
    refine gv_imul F dX2_turn_22 ?_
    refine lv_iload_n F.1 F.2.1 dX2_turn_23 rfl (lv_at hl 3 rfl) ?_
    refine gv_iadd F dX2_turn_24 ?_
    refine lv_iload_n F.1 F.2.1 dX2_turn_25 rfl (lv_at hl 0 rfl) ?_
    obtain ⟨g1, h⟩ := h
    obtain ⟨z2, ez2⟩ : ∃ z : AR, z = su op ((y1 * 7) + y2) t0 := ⟨_, rfl⟩
    have h := h z2 ez2
    refine gv_iast (n := 49) (g := op) (ws' := wRo cy ad z2 fa) F hK hP hD hS 1 rfl rfl (by decide) g1 (by subst ez2; exact rfl) dX2_turn_26 (fun H locs hP hD hS => ?_)
    refine lv_aload_n F.1 F.2.1 dX2_turn_27 rfl (lv_at hl 1 rfl) ?_
    refine gv_get F hin2 hK hP 0 rfl rfl 0 (by decide) k105 rfl dX2_turn_28 ?_
    refine lv_iload_n F.1 F.2.1 dX2_turn_31 rfl (lv_at hl 3 rfl) ?_
    refine gv_bipush F ⟨by decide, by decide⟩ dX2_turn_32 ?_
    refine gv_imul F dX2_turn_34 ?_
    refine lv_iload_n F.1 F.2.1 dX2_turn_35 rfl (lv_at hl 2 rfl) ?_
    refine gv_iadd F dX2_turn_36 ?_
    refine lv_iload_n F.1 F.2.1 dX2_turn_37 rfl (lv_at hl 0 rfl) ?_
    obtain ⟨g3, h⟩ := h
    obtain ⟨z4, ez4⟩ : ∃ z : AR, z = su z2 ((y2 * 7) + y1) t0 := ⟨_, rfl⟩
    have h := h z4 ez4
    refine gv_iast (n := 49) (g := z2) (ws' := wRo cy ad z4 fa) F hK hP hD hS 1 rfl rfl (by decide) g3 (by subst ez4; exact rfl) dX2_turn_38 (fun H locs hP hD hS => ?_)
    refine lv_aload_n F.1 F.2.1 dX2_turn_39 rfl (lv_at hl 1 rfl) ?_
    refine gc_VV (As := []) (wn := fun u : AR => wRo cy ad z4 u) F hK hA hP hD hS hP hD (fun u H1 _ h1 h2 => ⟨h1, h2⟩) (c_X2_measure l D cy ad z4 fa _ h) (cwV 0 F.2.2.2.2 (gG_V k94 k96 k0 k63 k97) rfl rfl rfl hd_X2_measure ⟨Nat.le_of_ble_eq_true rfl, Nat.le_of_ble_eq_true rfl⟩) rfl rfl dX2_turn_40 rfl rfl hl.1 (Nat.le_of_ble_eq_true rfl) ⟨Nat.le_of_ble_eq_true rfl, Nat.le_of_ble_eq_true rfl⟩ (fun z5 H locs h hP hD hS => ?_)
    try dsimp only at h hP hD
    exact ret (z4, z5) H locs 43 ls h hP hD hS dX2_turn_43
  refine lv_aload_n F.1 F.2.1 dX2_turn_0 rfl (lv_at hl 0 rfl) ?_
  refine lv_iload_n F.1 F.2.1 dX2_turn_1 rfl (lv_at hl 1 rfl) ?_
  refine lv_iload_n F.1 F.2.1 dX2_turn_2 rfl (lv_at hl 2 rfl) ?_
  refine gc_VR (As := [.int (iI x1), .int (iI x2)]) F hK hA hP hS hP (c_X2_isOpen l D cy ad op fa x1 x2 _ h) (cwV 2 F.2.2.2.2 (gG_V k382 k383 k384 k63 k385) rfl rfl rfl hd_X2_isOpen ⟨Nat.le_of_ble_eq_true rfl, Nat.le_of_ble_eq_true rfl⟩) rfl rfl dX2_turn_3 rfl rfl hl.1 (Nat.le_of_ble_eq_true rfl) ⟨Nat.le_of_ble_eq_true rfl, Nat.le_of_ble_eq_true rfl⟩ (fun u6 H locs h hP hS => ?_)
  obtain ⟨bu6, h⟩ := h
  refine gv_if_eq (tgt := 13) F (gRb bu6) dX2_turn_6 (by decide) (fun c7 => ?_) (fun c7 => ?_)
  · have h := h.1 c7
    refine gv_iconst F dX2_turn_13 ?_
    exact L14 x1 x2 1 op fa H locs ls h hP hD hS (lv_sub hl [0, 1, 2] rfl)
  · have h := h.2 c7
    refine gv_iconst F dX2_turn_9 ?_
    refine lv_goto (tgt := 14) F.1 F.2.1 dX2_turn_10 (by decide) ?_
    exact L14 x1 x2 0 op fa H locs ls h hP hD hS (lv_sub hl [0, 1, 2] rfl)
abbrev rX2_doors : Room := { frames := 0, cells := 0, slots := 0, locals := 0 }
set_option maxHeartbeats 4000000 in
set_option maxRecDepth 20000 in
theorem c_X2_doors (l : Launch) (D : va_G) (cy : ClassId) (ad : Nat → Nat) (op : AR) (fa : AR) (Q : Int → Prop) (h : wX2_doors op Q) : MetR l yX2_doors (wT yX2_doors cX2_doors 3 (some .int)) rX2_doors D cy [.ref (ad 0)] (wRo cy ad op fa) Q := by
  refine gI_R (by decide) (Nat.le_of_ble_eq_true rfl) ?_
  intro p e s m args below meth c A Qg F hK hA ret H locs ls hl hP hS
  have F : CallFix p m c cX2_doors 3 s args gT RX2 := F
  have hl : lv_has ls 3 [(0, .ref (ad 0))] := hl
  have L4 : ∀ (n : Nat) (y1 : Int) (y2 : Int) (H : Heap) (locs : List Loc) (ls : Array Slot), wX2_doors_4 op Q n y1 y2 → va_P D vwCl (wRo cy ad op fa) H → va_S A s.heap H locs → lv_has ls 3 [(0, .ref (ad 0)), (1, .int (iI y1)), (2, .int (iI y2))] → W p l e rX2_doors s m args below meth c H locs 0 0 Qg (F0 m 4 ls []) := by
    intro  n
    induction n with
    | zero => intro _ _ _ _ _ h; exact h.elim
    | succ n ih =>
      intro y1 y2 H locs ls h hP hS hl
      rw [wX2_doors_4_s] at h
      refine lv_iload_n F.1 F.2.1 dX2_doors_4 rfl (lv_at hl 2 rfl) ?_
      refine lv_aload_n F.1 F.2.1 dX2_doors_5 rfl (lv_at hl 0 rfl) ?_
      refine gv_get F hin2 hK hP 0 rfl rfl 0 (by decide) k105 rfl dX2_doors_6 ?_
      refine gv_alen (n := 49) (N := 49) F hK hP 1 rfl rfl dX2_doors_9 ?_
      obtain ⟨g1, h⟩ := h
      refine gv_icmp_ge (tgt := 28) F g1 ⟨by decide, by decide⟩ dX2_doors_10 (by decide) (fun c2 => ?_) (fun c2 => ?_)
      · have h := h.1 c2
        refine lv_iload_n F.1 F.2.1 dX2_doors_28 rfl (lv_at hl 1 rfl) ?_
        refine gv_iconst F dX2_doors_29 ?_
        obtain ⟨g3, h⟩ := h
        refine gv_idiv F ⟨g3, by decide, by decide⟩ dX2_doors_30 ?_
        exact ret (y1 / 2) H locs 31 ls h rfl hS dX2_doors_31
      · have h := h.2 c2
        refine lv_iload_n F.1 F.2.1 dX2_doors_13 rfl (lv_at hl 1 rfl) ?_
        refine lv_aload_n F.1 F.2.1 dX2_doors_14 rfl (lv_at hl 0 rfl) ?_
        refine gv_get F hin2 hK hP 0 rfl rfl 0 (by decide) k105 rfl dX2_doors_15 ?_
        refine lv_iload_n F.1 F.2.1 dX2_doors_18 rfl (lv_at hl 2 rfl) ?_
        obtain ⟨g4, h⟩ := h
        refine gv_iald (n := 49) (g := op) F hK hP 1 rfl rfl (by decide) g4 dX2_doors_19 ?_
        refine gv_iadd F dX2_doors_20 ?_
        refine gv_name (fun v5 ev5 => ?_)
        have h := h v5 ev5
        refine lv_istore_n (lv' := [(1, .int (iI v5)), (0, .ref (ad 0)), (2, .int (iI y2))]) F.1 F.2.1 dX2_doors_21 rfl hl (by decide) rfl (fun ls hl => ?_)
        obtain ⟨v6, ev6⟩ : ∃ z : Int, z = y2 + 1 := ⟨_, rfl⟩
        have h := h v6 ev6
        refine gv_iinc (lv' := [(2, .int (iI v6)), (1, .int (iI v5)), (0, .ref (ad 0))]) F dX2_doors_22 hl (k := 2) rfl ev6 (by decide) rfl (fun ls hl => ?_)
        refine lv_goto (tgt := 4) F.1 F.2.1 dX2_doors_25 (by decide) ?_
        exact ih v5 v6 H locs ls h hP hS (lv_sub hl [2, 1, 0] rfl)
  refine gv_iconst F dX2_doors_0 ?_
  refine lv_istore_n (lv' := [(1, .int (iI 0)), (0, .ref (ad 0))]) F.1 F.2.1 dX2_doors_1 rfl hl (by decide) rfl (fun ls hl => ?_)
  refine gv_iconst F dX2_doors_2 ?_
  refine lv_istore_n (lv' := [(2, .int (iI 0)), (1, .int (iI 0)), (0, .ref (ad 0))]) F.1 F.2.1 dX2_doors_3 rfl hl (by decide) rfl (fun ls hl => ?_)
  obtain ⟨n7, h⟩ := h
  exact L4 n7 0 0 H locs ls h hP hS (lv_sub hl [2, 1, 0] rfl)
abbrev rX2_distance : Room := { frames := 0, cells := 0, slots := 0, locals := 0 }
set_option maxHeartbeats 4000000 in
set_option maxRecDepth 20000 in
theorem c_X2_distance (l : Launch) (D : va_G) (cy : ClassId) (ad : Nat → Nat) (op : AR) (fa : AR) (x1 x2 : Int) (Q : Int → Prop) (h : wX2_distance fa x1 x2 Q) : MetR l yX2_distance (wT yX2_distance cX2_distance 4 (some .int)) rX2_distance D cy [.ref (ad 0), .int (iI x1), .int (iI x2)] (wRo cy ad op fa) Q := by
  refine gI_R (by decide) (Nat.le_of_ble_eq_true rfl) ?_
  intro p e s m args below meth c A Qg F hK hA ret H locs ls hl hP hS
  have F : CallFix p m c cX2_distance 4 s args gT RX2 := F
  have hl : lv_has ls 4 [(0, .ref (ad 0)), (1, .int (iI x1)), (2, .int (iI x2))] := hl
  refine lv_aload_n F.1 F.2.1 dX2_distance_0 rfl (lv_at hl 0 rfl) ?_
  refine gv_get F hin2 hK hP 0 rfl rfl 1 (by decide) k106 rfl dX2_distance_1 ?_
  refine lv_iload_n F.1 F.2.1 dX2_distance_4 rfl (lv_at hl 1 rfl) ?_
  refine gv_bipush F ⟨by decide, by decide⟩ dX2_distance_5 ?_
  refine gv_imul F dX2_distance_7 ?_
  refine lv_iload_n F.1 F.2.1 dX2_distance_8 rfl (lv_at hl 2 rfl) ?_
  refine gv_iadd F dX2_distance_9 ?_
  obtain ⟨g1, h⟩ := h
  refine gv_iald (n := 49) (g := fa) F hK hP 2 rfl rfl (by decide) g1 dX2_distance_10 ?_
  refine gv_name (fun v2 ev2 => ?_)
  have h := h v2 ev2
  refine lv_istore_n (lv' := [(3, .int (iI v2)), (0, .ref (ad 0)), (1, .int (iI x1)), (2, .int (iI x2))]) F.1 F.2.1 dX2_distance_11 rfl hl (by decide) rfl (fun ls hl => ?_)
  refine lv_iload_n F.1 F.2.1 dX2_distance_12 rfl (lv_at hl 0 rfl) ?_
  refine gv_sipush F ⟨by decide, by decide⟩ dX2_distance_13 ?_
  obtain ⟨g3, h⟩ := h
  refine gv_icmp_lt (tgt := 24) F g3 ⟨by decide, by decide⟩ dX2_distance_16 (by decide) (fun c4 => ?_) (fun c4 => ?_)
  · have h := h.1 c4
    refine lv_iload_n F.1 F.2.1 dX2_distance_24 rfl (lv_at hl 0 rfl) ?_
    exact ret v2 H locs 25 ls h rfl hS dX2_distance_25
  · have h := h.2 c4
    refine gv_bipush F ⟨by decide, by decide⟩ dX2_distance_19 ?_
    refine lv_goto (tgt := 25) F.1 F.2.1 dX2_distance_21 (by decide) ?_
    exact ret (-9) H locs 25 ls h rfl hS dX2_distance_25
