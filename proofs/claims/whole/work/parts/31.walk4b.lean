abbrev rX4_rightAll : Room := { frames := 2, cells := 0, slots := 0, locals := 44 }
set_option maxHeartbeats 4000000 in
set_option maxRecDepth 20000 in
theorem c_X4_rightAll (l : Launch) (D : va_G) (cy : ClassId) (a : Nat) (r : AR) (Q : Int → Prop) (h : wX4_rightAll r Q) : MetR l yX4_rightAll (wT yX4_rightAll cX4_rightAll 3 (some .int)) rX4_rightAll D cy [.ref a] (wAr cy a 147 r) Q := by
  refine gI_R (by decide) (Nat.le_of_ble_eq_true rfl) ?_
  intro p e s m args below meth c A Qg F hK hA ret H locs ls hl hP hS
  have F : CallFix p m c cX4_rightAll 3 s args gT RX4 := F
  have hl : lv_has ls 3 [(0, .ref a)] := hl
  have L4 : ∀ (n : Nat) (y1 : Int) (y2 : Int) (H : Heap) (locs : List Loc) (ls : Array Slot), wX4_rightAll_4 r Q n y1 y2 → va_P D vwCl (wAr cy a 147 r) H → va_S A s.heap H locs → lv_has ls 3 [(0, .ref a), (1, .int (iI y1)), (2, .int (iI y2))] → W p l e rX4_rightAll s m args below meth c H locs 0 0 Qg (F0 m 4 ls []) := by
    intro  n
    induction n with
    | zero => intro _ _ _ _ _ h; exact h.elim
    | succ n ih =>
      intro y1 y2 H locs ls h hP hS hl
      rw [wX4_rightAll_4_s] at h
      refine lv_iload_n F.1 F.2.1 dX4_rightAll_4 rfl (lv_at hl 2 rfl) ?_
      refine lv_aload_n F.1 F.2.1 dX4_rightAll_5 rfl (lv_at hl 0 rfl) ?_
      refine gv_iconst F dX4_rightAll_6 ?_
      refine gv_iald (n := 147) (g := r) F hK hP 0 rfl rfl (by decide) ⟨by decide, by decide⟩ dX4_rightAll_7 ?_
      obtain ⟨g1, h⟩ := h
      obtain ⟨g2, h⟩ := h
      refine gv_icmp_ge (tgt := 25) F g1 g2 dX4_rightAll_8 (by decide) (fun c3 => ?_) (fun c3 => ?_)
      · have h := h.1 c3
        refine lv_iload_n F.1 F.2.1 dX4_rightAll_25 rfl (lv_at hl 1 rfl) ?_
        exact ret y1 H locs 26 ls h rfl hS dX4_rightAll_26
      · have h := h.2 c3
        refine lv_iload_n F.1 F.2.1 dX4_rightAll_11 rfl (lv_at hl 1 rfl) ?_
        refine lv_aload_n F.1 F.2.1 dX4_rightAll_12 rfl (lv_at hl 0 rfl) ?_
        refine lv_iload_n F.1 F.2.1 dX4_rightAll_13 rfl (lv_at hl 2 rfl) ?_
        refine gc_SR (As := [.ref a, .int (iI y2)]) F hK hA hP hS hP (c_X4_rightOf l D cy a r y2 _ h) (cwS 2 F.2.2.2.2 (gG_S k952 k953 k67 k954) rfl rfl rfl hd_X4_rightOf ⟨Nat.le_of_ble_eq_true rfl, Nat.le_of_ble_eq_true rfl⟩) dX4_rightAll_14 rfl rfl hl.1 (Nat.le_of_ble_eq_true rfl) ⟨Nat.le_of_ble_eq_true rfl, Nat.le_of_ble_eq_true rfl⟩ (fun u4 H locs h hP hS => ?_)
        refine gv_iadd F dX4_rightAll_17 ?_
        refine gv_name (fun v5 ev5 => ?_)
        have h := h v5 ev5
        refine lv_istore_n (lv' := [(1, .int (iI v5)), (0, .ref a), (2, .int (iI y2))]) F.1 F.2.1 dX4_rightAll_18 rfl hl (by decide) rfl (fun ls hl => ?_)
        obtain ⟨v6, ev6⟩ : ∃ z : Int, z = y2 + 1 := ⟨_, rfl⟩
        have h := h v6 ev6
        refine gv_iinc (lv' := [(2, .int (iI v6)), (1, .int (iI v5)), (0, .ref a)]) F dX4_rightAll_19 hl (k := 2) rfl ev6 (by decide) rfl (fun ls hl => ?_)
        refine lv_goto (tgt := 4) F.1 F.2.1 dX4_rightAll_22 (by decide) ?_
        exact ih v5 v6 H locs ls h hP hS (lv_sub hl [2, 1, 0] rfl)
  refine gv_iconst F dX4_rightAll_0 ?_
  refine lv_istore_n (lv' := [(1, .int (iI 0)), (0, .ref a)]) F.1 F.2.1 dX4_rightAll_1 rfl hl (by decide) rfl (fun ls hl => ?_)
  refine gv_iconst F dX4_rightAll_2 ?_
  refine lv_istore_n (lv' := [(2, .int (iI 0)), (1, .int (iI 0)), (0, .ref a)]) F.1 F.2.1 dX4_rightAll_3 rfl hl (by decide) rfl (fun ls hl => ?_)
  obtain ⟨n7, h⟩ := h
  exact L4 n7 0 0 H locs ls h hP hS (lv_sub hl [2, 1, 0] rfl)
abbrev rX4_isDoneIn : Room := { frames := 2, cells := 0, slots := 0, locals := 44 }
set_option maxHeartbeats 4000000 in
set_option maxRecDepth 20000 in
theorem c_X4_isDoneIn (l : Launch) (D : va_G) (cy : ClassId) (a : Nat) (r : AR) (x1 : Int) (Q : Int → Prop) (h : wX4_isDoneIn r x1 Q) : MetR l yX4_isDoneIn (wT yX4_isDoneIn cX4_isDoneIn 2 (some .boolean)) rX4_isDoneIn D cy [.ref a, .int (iI x1)] (wAr cy a 147 r) (fun u => (u = 0 ∨ u = 1) ∧ Q u) := by
  refine gI_R (by decide) (Nat.le_of_ble_eq_true rfl) ?_
  intro p e s m args below meth c A Qg F hK hA ret H locs ls hl hP hS
  have F : CallFix p m c cX4_isDoneIn 2 s args gT RX4 := F
  have hl : lv_has ls 2 [(0, .ref a), (1, .int (iI x1))] := hl
  refine lv_aload_n F.1 F.2.1 dX4_isDoneIn_0 rfl (lv_at hl 0 rfl) ?_
  refine lv_iload_n F.1 F.2.1 dX4_isDoneIn_1 rfl (lv_at hl 1 rfl) ?_
  refine gc_SR (As := [.ref a, .int (iI x1)]) F hK hA hP hS hP (c_X4_answersOf l D cy a r x1 _ h) (cwS 2 F.2.2.2.2 (gG_S k966 k967 k67 k968) rfl rfl rfl hd_X4_answersOf ⟨Nat.le_of_ble_eq_true rfl, Nat.le_of_ble_eq_true rfl⟩) dX4_isDoneIn_2 rfl rfl hl.1 (Nat.le_of_ble_eq_true rfl) ⟨Nat.le_of_ble_eq_true rfl, Nat.le_of_ble_eq_true rfl⟩ (fun u1 H locs h hP hS => ?_)
  refine lv_aload_n F.1 F.2.1 dX4_isDoneIn_5 rfl (lv_at hl 0 rfl) ?_
  refine gv_iconst F dX4_isDoneIn_6 ?_
  refine gv_iald (n := 147) (g := r) F hK hP 0 rfl rfl (by decide) ⟨by decide, by decide⟩ dX4_isDoneIn_7 ?_
  obtain ⟨g2, h⟩ := h
  obtain ⟨g3, h⟩ := h
  refine gv_icmp_ne (tgt := 15) F g2 g3 dX4_isDoneIn_8 (by decide) (fun c4 => ?_) (fun c4 => ?_)
  · have h := h.1 c4
    refine gv_iconst F dX4_isDoneIn_15 ?_
    exact ret 0 H locs 16 ls ⟨Or.inl rfl, h⟩ rfl hS dX4_isDoneIn_16
  · have h := h.2 c4
    refine gv_iconst F dX4_isDoneIn_11 ?_
    refine lv_goto (tgt := 16) F.1 F.2.1 dX4_isDoneIn_12 (by decide) ?_
    exact ret 1 H locs 16 ls ⟨Or.inr rfl, h⟩ rfl hS dX4_isDoneIn_16
abbrev rX4_areAllDone : Room := { frames := 3, cells := 0, slots := 0, locals := 65 }
set_option maxHeartbeats 4000000 in
set_option maxRecDepth 20000 in
theorem c_X4_areAllDone (l : Launch) (D : va_G) (cy : ClassId) (a : Nat) (r : AR) (Q : Int → Prop) (h : wX4_areAllDone r Q) : MetR l yX4_areAllDone (wT yX4_areAllDone cX4_areAllDone 2 (some .boolean)) rX4_areAllDone D cy [.ref a] (wAr cy a 147 r) (fun u => (u = 0 ∨ u = 1) ∧ Q u) := by
  refine gI_R (by decide) (Nat.le_of_ble_eq_true rfl) ?_
  intro p e s m args below meth c A Qg F hK hA ret H locs ls hl hP hS
  have F : CallFix p m c cX4_areAllDone 2 s args gT RX4 := F
  have hl : lv_has ls 2 [(0, .ref a)] := hl
  have L2 : ∀ (n : Nat) (y1 : Int) (H : Heap) (locs : List Loc) (ls : Array Slot), wX4_areAllDone_2 r Q n y1 → va_P D vwCl (wAr cy a 147 r) H → va_S A s.heap H locs → lv_has ls 2 [(0, .ref a), (1, .int (iI y1))] → W p l e rX4_areAllDone s m args below meth c H locs 0 0 Qg (F0 m 2 ls []) := by
    intro  n
    induction n with
    | zero => intro _ _ _ _ h; exact h.elim
    | succ n ih =>
      intro y1 H locs ls h hP hS hl
      rw [wX4_areAllDone_2_s] at h
      refine lv_iload_n F.1 F.2.1 dX4_areAllDone_2 rfl (lv_at hl 1 rfl) ?_
      refine lv_aload_n F.1 F.2.1 dX4_areAllDone_3 rfl (lv_at hl 0 rfl) ?_
      refine gv_iconst F dX4_areAllDone_4 ?_
      refine gv_iald (n := 147) (g := r) F hK hP 0 rfl rfl (by decide) ⟨by decide, by decide⟩ dX4_areAllDone_5 ?_
      obtain ⟨g1, h⟩ := h
      obtain ⟨g2, h⟩ := h
      refine gv_icmp_ge (tgt := 25) F g1 g2 dX4_areAllDone_6 (by decide) (fun c3 => ?_) (fun c3 => ?_)
      · have h := h.1 c3
        refine gv_iconst F dX4_areAllDone_25 ?_
        exact ret 1 H locs 26 ls ⟨Or.inr rfl, h⟩ rfl hS dX4_areAllDone_26
      · have h := h.2 c3
        refine lv_aload_n F.1 F.2.1 dX4_areAllDone_9 rfl (lv_at hl 0 rfl) ?_
        refine lv_iload_n F.1 F.2.1 dX4_areAllDone_10 rfl (lv_at hl 1 rfl) ?_
        refine gc_SR (As := [.ref a, .int (iI y1)]) F hK hA hP hS hP (c_X4_isDoneIn l D cy a r y1 _ h) (cwS 2 F.2.2.2.2 (gG_S k984 k985 k67 k986) rfl rfl rfl hd_X4_isDoneIn ⟨Nat.le_of_ble_eq_true rfl, Nat.le_of_ble_eq_true rfl⟩) dX4_areAllDone_11 rfl rfl hl.1 (Nat.le_of_ble_eq_true rfl) ⟨Nat.le_of_ble_eq_true rfl, Nat.le_of_ble_eq_true rfl⟩ (fun u4 H locs h hP hS => ?_)
        obtain ⟨bu4, h⟩ := h
        refine gv_if_ne (tgt := 19) F (gRb bu4) dX4_areAllDone_14 (by decide) (fun c5 => ?_) (fun c5 => ?_)
        · have h := h.1 c5
          obtain ⟨v6, ev6⟩ : ∃ z : Int, z = y1 + 1 := ⟨_, rfl⟩
          have h := h v6 ev6
          refine gv_iinc (lv' := [(1, .int (iI v6)), (0, .ref a)]) F dX4_areAllDone_19 hl (k := 1) rfl ev6 (by decide) rfl (fun ls hl => ?_)
          refine lv_goto (tgt := 2) F.1 F.2.1 dX4_areAllDone_22 (by decide) ?_
          exact ih v6 H locs ls h hP hS (lv_sub hl [1, 0] rfl)
        · have h := h.2 c5
          refine gv_iconst F dX4_areAllDone_17 ?_
          exact ret 0 H locs 18 ls ⟨Or.inl rfl, h⟩ rfl hS dX4_areAllDone_18
  refine gv_iconst F dX4_areAllDone_0 ?_
  refine lv_istore_n (lv' := [(1, .int (iI 0)), (0, .ref a)]) F.1 F.2.1 dX4_areAllDone_1 rfl hl (by decide) rfl (fun ls hl => ?_)
  obtain ⟨n7, h⟩ := h
  exact L2 n7 0 H locs ls h hP hS (lv_sub hl [1, 0] rfl)
abbrev rX4_letter : Room := { frames := 1, cells := 0, slots := 0, locals := 21 }
set_option maxHeartbeats 4000000 in
set_option maxRecDepth 20000 in
theorem c_X4_letter (l : Launch) (D : va_G) (cy : ClassId) (ad : Nat → Nat) (o : AR) (ss : AR) (mm : AR) (im : AR) (wa : AR) (le : AR) (ro : AR) (re : AR) (fa : AR) (nu : AR) (x1 : Int) (Q : Int → AR → AR → AR → Prop) (h : wX4_letter o le re x1 Q) : MetI l yX4_letter (wT yX4_letter cX4_letter 2 (some .int)) rX4_letter D cy [.ref (ad 0), .int (iI x1)] (wMd cy ad o ss mm im wa le ro re fa nu) (fun u : AR × AR × AR => wMd cy ad u.1 ss mm im wa u.2.1 ro u.2.2 fa nu) (fun r u => Q r u.1 u.2.1 u.2.2) := by
  refine gI_I (by decide) (Nat.le_of_ble_eq_true rfl) ?_
  intro p e s m args below meth c A Qg F hK hA ret H locs ls hl hP hD hS
  have F : CallFix p m c cX4_letter 2 s args gT RX4 := F
  have hl : lv_has ls 2 [(0, .ref (ad 0)), (1, .int (iI x1))] := hl
  refine lv_iload_n F.1 F.2.1 dX4_letter_0 rfl (lv_at hl 1 rfl) ?_
  obtain ⟨g1, h⟩ := h
  refine gv_if_ge (tgt := 11) F g1 dX4_letter_1 (by decide) (fun c2 => ?_) (fun c2 => ?_)
  · have h := h.1 c2
    refine lv_iload_n F.1 F.2.1 dX4_letter_11 rfl (lv_at hl 1 rfl) ?_
    refine gv_sipush F ⟨by decide, by decide⟩ dX4_letter_12 ?_
    refine gv_icmp_gt (tgt := 27) F g1 ⟨by decide, by decide⟩ dX4_letter_15 (by decide) (fun c3 => ?_) (fun c3 => ?_)
    · have h := h.1 c3
      refine lv_aload_n F.1 F.2.1 dX4_letter_27 rfl (lv_at hl 0 rfl) ?_
      refine gv_bipush F ⟨by decide, by decide⟩ dX4_letter_28 ?_
      refine gc_VI (As := [.int (iI (-6))]) (wn := fun u : AR => wMd cy ad o ss mm im wa le ro u fa nu) F hK hA hP hD hS hP hD (fun u H1 _ h1 h2 => ⟨h1, h2⟩) (c_X4_no l D cy ad o ss mm im wa le ro re fa nu (-6) _ h) (cwV 1 F.2.2.2.2 (gG_V k812 k814 k34 k67 k815) rfl rfl rfl hd_X4_no ⟨Nat.le_of_ble_eq_true rfl, Nat.le_of_ble_eq_true rfl⟩) rfl rfl dX4_letter_30 rfl rfl hl.1 (Nat.le_of_ble_eq_true rfl) ⟨Nat.le_of_ble_eq_true rfl, Nat.le_of_ble_eq_true rfl⟩ (fun u5 z4 H locs h hP hD hS => ?_)
      try dsimp only at h hP hD
      exact ret u5 (o, le, z4) H locs 33 ls h rfl hP hD hS dX4_letter_33
    · have h := h.2 c3
      refine lv_aload_n F.1 F.2.1 dX4_letter_18 rfl (lv_at hl 0 rfl) ?_
      refine gv_get F hin4 hK hP 0 rfl rfl 8 (by decide) k764 rfl dX4_letter_19 ?_
      refine gv_bipush F ⟨by decide, by decide⟩ dX4_letter_22 ?_
      obtain ⟨g6, h⟩ := h
      refine gv_icmp_ne (tgt := 34) F g6 ⟨by decide, by decide⟩ dX4_letter_24 (by decide) (fun c7 => ?_) (fun c7 => ?_)
      · have h := h.1 c7
        refine lv_aload_n F.1 F.2.1 dX4_letter_34 rfl (lv_at hl 0 rfl) ?_
        refine gv_get F hin4 hK hP 0 rfl rfl 5 (by decide) k761 rfl dX4_letter_35 ?_
        refine lv_aload_n F.1 F.2.1 dX4_letter_38 rfl (lv_at hl 0 rfl) ?_
        refine gv_get F hin4 hK hP 0 rfl rfl 8 (by decide) k764 rfl dX4_letter_39 ?_
        refine lv_iload_n F.1 F.2.1 dX4_letter_42 rfl (lv_at hl 1 rfl) ?_
        obtain ⟨g8, h⟩ := h
        obtain ⟨z9, ez9⟩ : ∃ z : AR, z = su le (o 8) x1 := ⟨_, rfl⟩
        have h := h z9 ez9
        refine gv_iast (n := 96) (g := le) (ws' := wMd cy ad o ss mm im wa z9 ro re fa nu) F hK hP hD hS 5 rfl rfl (by decide) g8 (by subst ez9; exact rfl) dX4_letter_43 (fun H locs hP hD hS => ?_)
        refine lv_aload_n F.1 F.2.1 dX4_letter_44 rfl (lv_at hl 0 rfl) ?_
        refine lv_dup F.1 F.2.1 dX4_letter_45 rfl ?_
        refine gv_get F hin4 hK hP 0 rfl rfl 8 (by decide) k764 rfl dX4_letter_46 ?_
        refine gv_iconst F dX4_letter_49 ?_
        refine gv_iadd F dX4_letter_50 ?_
        obtain ⟨z10, ez10⟩ : ∃ z : AR, z = su o 8 ((o 8) + 1) := ⟨_, rfl⟩
        have h := h z10 ez10
        refine gv_put (ws' := wMd cy ad z10 ss mm im wa z9 ro re fa nu) F hin4 tyX4 tyX4_ok nmX4 hK hP hD hS 0 rfl rfl 8 (by decide) k764 rfl (ty := .int) (by decide +kernel) rfl rfl (Nat.le_of_ble_eq_true rfl) (by subst ez10; exact wMd_o8 rfl) dX4_letter_51 (fun H locs hP hD hS => ?_)
        refine lv_aload_n F.1 F.2.1 dX4_letter_54 rfl (lv_at hl 0 rfl) ?_
        refine gv_get F hin4 hK hP 0 rfl rfl 8 (by decide) k764 rfl dX4_letter_55 ?_
        exact ret (z10 8) (z10, z9, re) H locs 58 ls h rfl hP hD hS dX4_letter_58
      · have h := h.2 c7
        refine lv_aload_n F.1 F.2.1 dX4_letter_27 rfl (lv_at hl 0 rfl) ?_
        refine gv_bipush F ⟨by decide, by decide⟩ dX4_letter_28 ?_
        refine gc_VI (As := [.int (iI (-6))]) (wn := fun u : AR => wMd cy ad o ss mm im wa le ro u fa nu) F hK hA hP hD hS hP hD (fun u H1 _ h1 h2 => ⟨h1, h2⟩) (c_X4_no l D cy ad o ss mm im wa le ro re fa nu (-6) _ h) (cwV 1 F.2.2.2.2 (gG_V k812 k814 k34 k67 k815) rfl rfl rfl hd_X4_no ⟨Nat.le_of_ble_eq_true rfl, Nat.le_of_ble_eq_true rfl⟩) rfl rfl dX4_letter_30 rfl rfl hl.1 (Nat.le_of_ble_eq_true rfl) ⟨Nat.le_of_ble_eq_true rfl, Nat.le_of_ble_eq_true rfl⟩ (fun u12 z11 H locs h hP hD hS => ?_)
        try dsimp only at h hP hD
        exact ret u12 (o, le, z11) H locs 33 ls h rfl hP hD hS dX4_letter_33
  · have h := h.2 c2
    refine lv_aload_n F.1 F.2.1 dX4_letter_4 rfl (lv_at hl 0 rfl) ?_
    refine gv_bipush F ⟨by decide, by decide⟩ dX4_letter_5 ?_
    refine gc_VI (As := [.int (iI (-4))]) (wn := fun u : AR => wMd cy ad o ss mm im wa le ro u fa nu) F hK hA hP hD hS hP hD (fun u H1 _ h1 h2 => ⟨h1, h2⟩) (c_X4_no l D cy ad o ss mm im wa le ro re fa nu (-4) _ h) (cwV 1 F.2.2.2.2 (gG_V k812 k814 k34 k67 k815) rfl rfl rfl hd_X4_no ⟨Nat.le_of_ble_eq_true rfl, Nat.le_of_ble_eq_true rfl⟩) rfl rfl dX4_letter_7 rfl rfl hl.1 (Nat.le_of_ble_eq_true rfl) ⟨Nat.le_of_ble_eq_true rfl, Nat.le_of_ble_eq_true rfl⟩ (fun u14 z13 H locs h hP hD hS => ?_)
    try dsimp only at h hP hD
    exact ret u14 (o, le, z13) H locs 10 ls h rfl hP hD hS dX4_letter_10
abbrev rX4_here : Room := { frames := 0, cells := 0, slots := 0, locals := 0 }
set_option maxHeartbeats 4000000 in
set_option maxRecDepth 20000 in
theorem c_X4_here (l : Launch) (D : va_G) (cy : ClassId) (ad : Nat → Nat) (o : AR) (ss : AR) (mm : AR) (im : AR) (wa : AR) (le : AR) (ro : AR) (re : AR) (fa : AR) (nu : AR) (Q : Int → Prop) (h : wX4_here o le Q) : MetR l yX4_here (wT yX4_here cX4_here 1 (some .int)) rX4_here D cy [.ref (ad 0)] (wMd cy ad o ss mm im wa le ro re fa nu) Q := by
  refine gI_R (by decide) (Nat.le_of_ble_eq_true rfl) ?_
  intro p e s m args below meth c A Qg F hK hA ret H locs ls hl hP hS
  have F : CallFix p m c cX4_here 1 s args gT RX4 := F
  have hl : lv_has ls 1 [(0, .ref (ad 0))] := hl
  refine lv_aload_n F.1 F.2.1 dX4_here_0 rfl (lv_at hl 0 rfl) ?_
  refine gv_get F hin4 hK hP 0 rfl rfl 11 (by decide) k767 rfl dX4_here_1 ?_
  refine lv_aload_n F.1 F.2.1 dX4_here_4 rfl (lv_at hl 0 rfl) ?_
  refine gv_get F hin4 hK hP 0 rfl rfl 8 (by decide) k764 rfl dX4_here_5 ?_
  obtain ⟨g1, h⟩ := h
  obtain ⟨g2, h⟩ := h
  refine gv_icmp_ge (tgt := 23) F g1 g2 dX4_here_8 (by decide) (fun c3 => ?_) (fun c3 => ?_)
  · have h := h.1 c3
    refine gv_iconst F dX4_here_23 ?_
    exact ret (-1) H locs 24 ls h rfl hS dX4_here_24
  · have h := h.2 c3
    refine lv_aload_n F.1 F.2.1 dX4_here_11 rfl (lv_at hl 0 rfl) ?_
    refine gv_get F hin4 hK hP 0 rfl rfl 5 (by decide) k761 rfl dX4_here_12 ?_
    refine lv_aload_n F.1 F.2.1 dX4_here_15 rfl (lv_at hl 0 rfl) ?_
    refine gv_get F hin4 hK hP 0 rfl rfl 11 (by decide) k767 rfl dX4_here_16 ?_
    obtain ⟨g4, h⟩ := h
    refine gv_iald (n := 96) (g := le) F hK hP 5 rfl rfl (by decide) g4 dX4_here_19 ?_
    refine lv_goto (tgt := 24) F.1 F.2.1 dX4_here_20 (by decide) ?_
    exact ret (le (o 11)) H locs 24 ls h rfl hS dX4_here_24
abbrev rX4_readsDigit : Room := { frames := 1, cells := 0, slots := 0, locals := 22 }
set_option maxHeartbeats 4000000 in
set_option maxRecDepth 20000 in
theorem c_X4_readsDigit (l : Launch) (D : va_G) (cy : ClassId) (ad : Nat → Nat) (o : AR) (ss : AR) (mm : AR) (im : AR) (wa : AR) (le : AR) (ro : AR) (re : AR) (fa : AR) (nu : AR) (x1 : Int) (Q : Int → AR → AR → Prop) (h : wX4_readsDigit o le nu x1 Q) : MetI l yX4_readsDigit (wT yX4_readsDigit cX4_readsDigit 2 (some .boolean)) rX4_readsDigit D cy [.ref (ad 0), .int (iI x1)] (wMd cy ad o ss mm im wa le ro re fa nu) (fun u : AR × AR => wMd cy ad u.1 ss mm im wa le ro re fa u.2) (fun r u => (r = 0 ∨ r = 1) ∧ Q r u.1 u.2) := by
  refine gI_I (by decide) (Nat.le_of_ble_eq_true rfl) ?_
  intro p e s m args below meth c A Qg F hK hA ret H locs ls hl hP hD hS
  have F : CallFix p m c cX4_readsDigit 2 s args gT RX4 := F
  have hl : lv_has ls 2 [(0, .ref (ad 0)), (1, .int (iI x1))] := hl
  refine lv_aload_n F.1 F.2.1 dX4_readsDigit_0 rfl (lv_at hl 0 rfl) ?_
  refine gc_VR (As := []) F hK hA hP hS hP (c_X4_here l D cy ad o ss mm im wa le ro re fa nu _ h) (cwV 0 F.2.2.2.2 (gG_V k824 k826 k36 k67 k827) rfl rfl rfl hd_X4_here ⟨Nat.le_of_ble_eq_true rfl, Nat.le_of_ble_eq_true rfl⟩) rfl rfl dX4_readsDigit_1 rfl rfl hl.1 (Nat.le_of_ble_eq_true rfl) ⟨Nat.le_of_ble_eq_true rfl, Nat.le_of_ble_eq_true rfl⟩ (fun u1 H locs h hP hS => ?_)
  refine gv_bipush F ⟨by decide, by decide⟩ dX4_readsDigit_4 ?_
  refine gv_bipush F ⟨by decide, by decide⟩ dX4_readsDigit_6 ?_
  refine gc_SR (As := [.int (iI u1), .int (iI 48), .int (iI 57)]) F hK hA hP hS gPnil (c_X4_isIn l D cy u1 48 57 _ h) (cwS 3 F.2.2.2.2 (gG_S k832 k833 k67 k834) rfl rfl rfl hd_X4_isIn ⟨Nat.le_of_ble_eq_true rfl, Nat.le_of_ble_eq_true rfl⟩) dX4_readsDigit_8 rfl rfl hl.1 (Nat.le_of_ble_eq_true rfl) ⟨Nat.le_of_ble_eq_true rfl, Nat.le_of_ble_eq_true rfl⟩ (fun u2 H locs h hP hS => ?_)
  obtain ⟨bu2, h⟩ := h
  refine gv_if_ne (tgt := 16) F (gRb bu2) dX4_readsDigit_11 (by decide) (fun c3 => ?_) (fun c3 => ?_)
  · have h := h.1 c3
    refine lv_aload_n F.1 F.2.1 dX4_readsDigit_16 rfl (lv_at hl 0 rfl) ?_
    refine gv_get F hin4 hK hP 0 rfl rfl 12 (by decide) k768 rfl dX4_readsDigit_17 ?_
    refine lv_iload_n F.1 F.2.1 dX4_readsDigit_20 rfl (lv_at hl 1 rfl) ?_
    refine lv_aload_n F.1 F.2.1 dX4_readsDigit_21 rfl (lv_at hl 0 rfl) ?_
    refine gc_VR (As := []) F hK hA hP hS hP (c_X4_here l D cy ad o ss mm im wa le ro re fa nu _ h) (cwV 0 F.2.2.2.2 (gG_V k824 k826 k36 k67 k827) rfl rfl rfl hd_X4_here ⟨Nat.le_of_ble_eq_true rfl, Nat.le_of_ble_eq_true rfl⟩) rfl rfl dX4_readsDigit_22 rfl rfl hl.1 (Nat.le_of_ble_eq_true rfl) ⟨Nat.le_of_ble_eq_true rfl, Nat.le_of_ble_eq_true rfl⟩ (fun u4 H locs h hP hS => ?_)
    refine gv_bipush F ⟨by decide, by decide⟩ dX4_readsDigit_25 ?_
    refine gv_isub F dX4_readsDigit_27 ?_
    obtain ⟨g5, h⟩ := h
    obtain ⟨z6, ez6⟩ : ∃ z : AR, z = su nu x1 (u4 - 48) := ⟨_, rfl⟩
    have h := h z6 ez6
    refine gv_iast (n := 4) (g := nu) (ws' := wMd cy ad o ss mm im wa le ro re fa z6) F hK hP hD hS 9 rfl rfl (by decide) g5 (by subst ez6; exact rfl) dX4_readsDigit_28 (fun H locs hP hD hS => ?_)
    refine lv_aload_n F.1 F.2.1 dX4_readsDigit_29 rfl (lv_at hl 0 rfl) ?_
    refine lv_dup F.1 F.2.1 dX4_readsDigit_30 rfl ?_
    refine gv_get F hin4 hK hP 0 rfl rfl 11 (by decide) k767 rfl dX4_readsDigit_31 ?_
    refine gv_iconst F dX4_readsDigit_34 ?_
    refine gv_iadd F dX4_readsDigit_35 ?_
    obtain ⟨z7, ez7⟩ : ∃ z : AR, z = su o 11 ((o 11) + 1) := ⟨_, rfl⟩
    have h := h z7 ez7
    refine gv_put (ws' := wMd cy ad z7 ss mm im wa le ro re fa z6) F hin4 tyX4 tyX4_ok nmX4 hK hP hD hS 0 rfl rfl 11 (by decide) k767 rfl (ty := .int) (by decide +kernel) rfl rfl (Nat.le_of_ble_eq_true rfl) (by subst ez7; exact wMd_o11 rfl) dX4_readsDigit_36 (fun H locs hP hD hS => ?_)
    refine gv_iconst F dX4_readsDigit_39 ?_
    exact ret 1 (z7, z6) H locs 40 ls ⟨Or.inr rfl, h⟩ rfl hP hD hS dX4_readsDigit_40
  · have h := h.2 c3
    refine gv_iconst F dX4_readsDigit_14 ?_
    exact ret 0 (o, nu) H locs 15 ls ⟨Or.inl rfl, h⟩ rfl hP hD hS dX4_readsDigit_15
abbrev rX4_kindBy : Room := { frames := 0, cells := 0, slots := 0, locals := 0 }
set_option maxHeartbeats 4000000 in
set_option maxRecDepth 20000 in
theorem c_X4_kindBy (l : Launch) (D : va_G) (cy : ClassId)   (x0 : Int) (Q : Int → Prop) (h : wX4_kindBy x0 Q) : MetR l yX4_kindBy (wT yX4_kindBy cX4_kindBy 1 (some .int)) rX4_kindBy D cy [.int (iI x0)] ([]) Q := by
  refine gI_R (by decide) (Nat.le_of_ble_eq_true rfl) ?_
  intro p e s m args below meth c A Qg F hK hA ret H locs ls hl hP hS
  have F : CallFix p m c cX4_kindBy 1 s args gT RX4 := F
  have hl : lv_has ls 1 [(0, .int (iI x0))] := hl
  refine lv_iload_n F.1 F.2.1 dX4_kindBy_0 rfl (lv_at hl 0 rfl) ?_
  obtain ⟨g1, h⟩ := h
  by_cases c2 : x0 = 99
  · have h := h.1 c2
    refine gv_tableIn (tgt := 68) (off := 67) F g1 c2 (by decide) (by decide) dX4_kindBy_1 rfl (by decide) ?_
    refine gv_iconst F dX4_kindBy_68 ?_
    exact ret 2 H locs 69 ls h rfl hS dX4_kindBy_69
  by_cases c3 : x0 = 100
  · have h := h.2.1 c3
    refine gv_tableIn (tgt := 66) (off := 65) F g1 c3 (by decide) (by decide) dX4_kindBy_1 rfl (by decide) ?_
    refine gv_iconst F dX4_kindBy_66 ?_
    exact ret 1 H locs 67 ls h rfl hS dX4_kindBy_67
  by_cases c4 : x0 = 101
  · have h := h.2.2.1 c4
    refine gv_tableIn (tgt := 76) (off := 75) F g1 c4 (by decide) (by decide) dX4_kindBy_1 rfl (by decide) ?_
    refine gv_bipush F ⟨by decide, by decide⟩ dX4_kindBy_76 ?_
    exact ret (-9) H locs 78 ls h rfl hS dX4_kindBy_78
  by_cases c5 : x0 = 102
  · have h := h.2.2.2.1 c5
    refine gv_tableIn (tgt := 76) (off := 75) F g1 c5 (by decide) (by decide) dX4_kindBy_1 rfl (by decide) ?_
    refine gv_bipush F ⟨by decide, by decide⟩ dX4_kindBy_76 ?_
    exact ret (-9) H locs 78 ls h rfl hS dX4_kindBy_78
  by_cases c6 : x0 = 103
  · have h := h.2.2.2.2.1 c6
    refine gv_tableIn (tgt := 74) (off := 73) F g1 c6 (by decide) (by decide) dX4_kindBy_1 rfl (by decide) ?_
    refine gv_iconst F dX4_kindBy_74 ?_
    exact ret 5 H locs 75 ls h rfl hS dX4_kindBy_75
  by_cases c7 : x0 = 104
  · have h := h.2.2.2.2.2.1 c7
    refine gv_tableIn (tgt := 76) (off := 75) F g1 c7 (by decide) (by decide) dX4_kindBy_1 rfl (by decide) ?_
    refine gv_bipush F ⟨by decide, by decide⟩ dX4_kindBy_76 ?_
    exact ret (-9) H locs 78 ls h rfl hS dX4_kindBy_78
  by_cases c8 : x0 = 105
  · have h := h.2.2.2.2.2.2.1 c8
    refine gv_tableIn (tgt := 76) (off := 75) F g1 c8 (by decide) (by decide) dX4_kindBy_1 rfl (by decide) ?_
    refine gv_bipush F ⟨by decide, by decide⟩ dX4_kindBy_76 ?_
    exact ret (-9) H locs 78 ls h rfl hS dX4_kindBy_78
  by_cases c9 : x0 = 106
  · have h := h.2.2.2.2.2.2.2.1 c9
    refine gv_tableIn (tgt := 76) (off := 75) F g1 c9 (by decide) (by decide) dX4_kindBy_1 rfl (by decide) ?_
    refine gv_bipush F ⟨by decide, by decide⟩ dX4_kindBy_76 ?_
    exact ret (-9) H locs 78 ls h rfl hS dX4_kindBy_78
  by_cases c10 : x0 = 107
  · have h := h.2.2.2.2.2.2.2.2.1 c10
    refine gv_tableIn (tgt := 76) (off := 75) F g1 c10 (by decide) (by decide) dX4_kindBy_1 rfl (by decide) ?_
    refine gv_bipush F ⟨by decide, by decide⟩ dX4_kindBy_76 ?_
    exact ret (-9) H locs 78 ls h rfl hS dX4_kindBy_78
  by_cases c11 : x0 = 108
  · have h := h.2.2.2.2.2.2.2.2.2.1 c11
    refine gv_tableIn (tgt := 64) (off := 63) F g1 c11 (by decide) (by decide) dX4_kindBy_1 rfl (by decide) ?_
    refine gv_iconst F dX4_kindBy_64 ?_
    exact ret 0 H locs 65 ls h rfl hS dX4_kindBy_65
  by_cases c12 : x0 = 109
  · have h := h.2.2.2.2.2.2.2.2.2.2.1 c12
    refine gv_tableIn (tgt := 70) (off := 69) F g1 c12 (by decide) (by decide) dX4_kindBy_1 rfl (by decide) ?_
    refine gv_iconst F dX4_kindBy_70 ?_
    exact ret 3 H locs 71 ls h rfl hS dX4_kindBy_71
  by_cases c13 : x0 = 110
  · have h := h.2.2.2.2.2.2.2.2.2.2.2.1 c13
    refine gv_tableIn (tgt := 72) (off := 71) F g1 c13 (by decide) (by decide) dX4_kindBy_1 rfl (by decide) ?_
    refine gv_iconst F dX4_kindBy_72 ?_
    exact ret 4 H locs 73 ls h rfl hS dX4_kindBy_73
  have cd : x0 < 99 ∨ 110 < x0 := by omega
  have h := h.2.2.2.2.2.2.2.2.2.2.2.2 cd
  refine gv_tableOut (tgt := 76) F g1 cd dX4_kindBy_1 (by decide) ?_
  refine gv_bipush F ⟨by decide, by decide⟩ dX4_kindBy_76 ?_
  exact ret (-9) H locs 78 ls h rfl hS dX4_kindBy_78
abbrev rX4_readsKind : Room := { frames := 1, cells := 0, slots := 0, locals := 20 }
set_option maxHeartbeats 4000000 in
set_option maxRecDepth 20000 in
theorem c_X4_readsKind (l : Launch) (D : va_G) (cy : ClassId) (ad : Nat → Nat) (o : AR) (ss : AR) (mm : AR) (im : AR) (wa : AR) (le : AR) (ro : AR) (re : AR) (fa : AR) (nu : AR) (Q : Int → AR → AR → Prop) (h : wX4_readsKind o le nu Q) : MetI l yX4_readsKind (wT yX4_readsKind cX4_readsKind 1 (some .boolean)) rX4_readsKind D cy [.ref (ad 0)] (wMd cy ad o ss mm im wa le ro re fa nu) (fun u : AR × AR => wMd cy ad u.1 ss mm im wa le ro re fa u.2) (fun r u => (r = 0 ∨ r = 1) ∧ Q r u.1 u.2) := by
  refine gI_I (by decide) (Nat.le_of_ble_eq_true rfl) ?_
  intro p e s m args below meth c A Qg F hK hA ret H locs ls hl hP hD hS
  have F : CallFix p m c cX4_readsKind 1 s args gT RX4 := F
  have hl : lv_has ls 1 [(0, .ref (ad 0))] := hl
  have L32 : ∀ (t0 : Int) (t1 : Int) (o : AR) (nu : AR) (H : Heap) (locs : List Loc) (ls : Array Slot), wX4_readsKind_32 le Q t0 t1 o nu → va_P D vwCl (wMd cy ad o ss mm im wa le ro re fa nu) H → va_D A (wMd cy ad o ss mm im wa le ro re fa nu) → va_S A s.heap H locs → lv_has ls 1 [(0, .ref (ad 0))] → W p l e rX4_readsKind s m args below meth c H locs 0 0 Qg (F0 m 32 ls [.int (iI t0), .int (iI t1), .ref (ad 0)]) := by
    intro t0 t1 o nu H locs ls h hP hD hS hl
    refine gv_iadd F dX4_readsKind_32 ?_
    obtain ⟨z1, ez1⟩ : ∃ z : AR, z = su o 11 (t1 + t0) := ⟨_, rfl⟩
    have h := h z1 ez1
    refine gv_put (ws' := wMd cy ad z1 ss mm im wa le ro re fa nu) F hin4 tyX4 tyX4_ok nmX4 hK hP hD hS 0 rfl rfl 11 (by decide) k767 rfl (ty := .int) (by decide +kernel) rfl rfl (Nat.le_of_ble_eq_true rfl) (by subst ez1; exact wMd_o11 rfl) dX4_readsKind_33 (fun H locs hP hD hS => ?_)
    refine lv_aload_n F.1 F.2.1 dX4_readsKind_36 rfl (lv_at hl 0 rfl) ?_
    refine gv_get F hin4 hK hP 0 rfl rfl 12 (by decide) k768 rfl dX4_readsKind_37 ?_
    refine gv_iconst F dX4_readsKind_40 ?_
    refine gv_iald (n := 4) (g := nu) F hK hP 9 rfl rfl (by decide) ⟨by decide, by decide⟩ dX4_readsKind_41 ?_
    obtain ⟨g2, h⟩ := h
    refine gv_if_lt (tgt := 49) F g2 dX4_readsKind_42 (by decide) (fun c3 => ?_) (fun c3 => ?_)
    · have h := h.1 c3
      refine gv_iconst F dX4_readsKind_49 ?_
      exact ret 0 (z1, nu) H locs 50 ls ⟨Or.inl rfl, h⟩ rfl hP hD hS dX4_readsKind_50
    · have h := h.2 c3
      refine gv_iconst F dX4_readsKind_45 ?_
      refine lv_goto (tgt := 50) F.1 F.2.1 dX4_readsKind_46 (by decide) ?_
      exact ret 1 (z1, nu) H locs 50 ls ⟨Or.inr rfl, h⟩ rfl hP hD hS dX4_readsKind_50
  refine lv_aload_n F.1 F.2.1 dX4_readsKind_0 rfl (lv_at hl 0 rfl) ?_
  refine gv_get F hin4 hK hP 0 rfl rfl 12 (by decide) k768 rfl dX4_readsKind_1 ?_
  refine gv_iconst F dX4_readsKind_4 ?_
  refine lv_aload_n F.1 F.2.1 dX4_readsKind_5 rfl (lv_at hl 0 rfl) ?_
  refine gc_VR (As := []) F hK hA hP hS hP (c_X4_here l D cy ad o ss mm im wa le ro re fa nu _ h) (cwV 0 F.2.2.2.2 (gG_V k824 k826 k36 k67 k827) rfl rfl rfl hd_X4_here ⟨Nat.le_of_ble_eq_true rfl, Nat.le_of_ble_eq_true rfl⟩) rfl rfl dX4_readsKind_6 rfl rfl hl.1 (Nat.le_of_ble_eq_true rfl) ⟨Nat.le_of_ble_eq_true rfl, Nat.le_of_ble_eq_true rfl⟩ (fun u4 H locs h hP hS => ?_)
  refine gc_SR (As := [.int (iI u4)]) F hK hA hP hS gPnil (c_X4_kindBy l D cy u4 _ h) (cwS 1 F.2.2.2.2 (gG_S k839 k840 k67 k841) rfl rfl rfl hd_X4_kindBy ⟨Nat.le_of_ble_eq_true rfl, Nat.le_of_ble_eq_true rfl⟩) dX4_readsKind_9 rfl rfl hl.1 (Nat.le_of_ble_eq_true rfl) ⟨Nat.le_of_ble_eq_true rfl, Nat.le_of_ble_eq_true rfl⟩ (fun u5 H locs h hP hS => ?_)
  obtain ⟨z6, ez6⟩ : ∃ z : AR, z = su nu 0 u5 := ⟨_, rfl⟩
  have h := h z6 ez6
  refine gv_iast (n := 4) (g := nu) (ws' := wMd cy ad o ss mm im wa le ro re fa z6) F hK hP hD hS 9 rfl rfl (by decide) ⟨by decide, by decide⟩ (by subst ez6; exact rfl) dX4_readsKind_12 (fun H locs hP hD hS => ?_)
  refine lv_aload_n F.1 F.2.1 dX4_readsKind_13 rfl (lv_at hl 0 rfl) ?_
  refine lv_dup F.1 F.2.1 dX4_readsKind_14 rfl ?_
  refine gv_get F hin4 hK hP 0 rfl rfl 11 (by decide) k767 rfl dX4_readsKind_15 ?_
  refine lv_aload_n F.1 F.2.1 dX4_readsKind_18 rfl (lv_at hl 0 rfl) ?_
  refine gv_get F hin4 hK hP 0 rfl rfl 12 (by decide) k768 rfl dX4_readsKind_19 ?_
  refine gv_iconst F dX4_readsKind_22 ?_
  refine gv_iald (n := 4) (g := z6) F hK hP 9 rfl rfl (by decide) ⟨by decide, by decide⟩ dX4_readsKind_23 ?_
  obtain ⟨g7, h⟩ := h
  refine gv_if_ge (tgt := 31) F g7 dX4_readsKind_24 (by decide) (fun c8 => ?_) (fun c8 => ?_)
  · have h := h.1 c8
    refine gv_iconst F dX4_readsKind_31 ?_
    exact L32 1 (o 11) o z6 H locs ls h hP hD hS (lv_sub hl [0] rfl)
  · have h := h.2 c8
    refine gv_iconst F dX4_readsKind_27 ?_
    refine lv_goto (tgt := 32) F.1 F.2.1 dX4_readsKind_28 (by decide) ?_
    exact L32 0 (o 11) o z6 H locs ls h hP hD hS (lv_sub hl [0] rfl)
abbrev rX4_readsStatement : Room := { frames := 2, cells := 0, slots := 0, locals := 43 }
set_option maxHeartbeats 4000000 in
set_option maxRecDepth 20000 in
theorem c_X4_readsStatement (l : Launch) (D : va_G) (cy : ClassId) (ad : Nat → Nat) (o : AR) (ss : AR) (mm : AR) (im : AR) (wa : AR) (le : AR) (ro : AR) (re : AR) (fa : AR) (nu : AR) (Q : Int → AR → AR → Prop) (h : wX4_readsStatement o le nu Q) : MetI l yX4_readsStatement (wT yX4_readsStatement cX4_readsStatement 3 (some .boolean)) rX4_readsStatement D cy [.ref (ad 0)] (wMd cy ad o ss mm im wa le ro re fa nu) (fun u : AR × AR => wMd cy ad u.1 ss mm im wa le ro re fa u.2) (fun r u => (r = 0 ∨ r = 1) ∧ Q r u.1 u.2) := by
  refine gI_I (by decide) (Nat.le_of_ble_eq_true rfl) ?_
  intro p e s m args below meth c A Qg F hK hA ret H locs ls hl hP hD hS
  have F : CallFix p m c cX4_readsStatement 3 s args gT RX4 := F
  have hl : lv_has ls 3 [(0, .ref (ad 0))] := hl
  have L186 : ∀ (y2 : Int) (o : AR) (nu : AR) (H : Heap) (locs : List Loc) (ls : Array Slot), wX4_readsStatement_186 le Q y2 o nu → va_P D vwCl (wMd cy ad o ss mm im wa le ro re fa nu) H → va_D A (wMd cy ad o ss mm im wa le ro re fa nu) → va_S A s.heap H locs → lv_has ls 3 [(0, .ref (ad 0)), (2, .int (iI y2))] → W p l e rX4_readsStatement s m args below meth c H locs 0 0 Qg (F0 m 186 ls []) := by
    intro y2 o nu H locs ls h hP hD hS hl
    refine lv_iload_n F.1 F.2.1 dX4_readsStatement_186 rfl (lv_at hl 1 rfl) ?_
    obtain ⟨g1, h⟩ := h
    refine gv_if_eq (tgt := 199) F g1 dX4_readsStatement_187 (by decide) (fun c2 => ?_) (fun c2 => ?_)
    · have h := h.1 c2
      refine gv_iconst F dX4_readsStatement_199 ?_
      exact ret 0 (o, nu) H locs 200 ls ⟨Or.inl rfl, h⟩ rfl hP hD hS dX4_readsStatement_200
    · have h := h.2 c2
      refine lv_aload_n F.1 F.2.1 dX4_readsStatement_190 rfl (lv_at hl 0 rfl) ?_
      refine gc_VR (As := []) F hK hA hP hS hP (c_X4_here l D cy ad o ss mm im wa le ro re fa nu _ h) (cwV 0 F.2.2.2.2 (gG_V k824 k826 k36 k67 k827) rfl rfl rfl hd_X4_here ⟨Nat.le_of_ble_eq_true rfl, Nat.le_of_ble_eq_true rfl⟩) rfl rfl dX4_readsStatement_191 rfl rfl hl.1 (Nat.le_of_ble_eq_true rfl) ⟨Nat.le_of_ble_eq_true rfl, Nat.le_of_ble_eq_true rfl⟩ (fun u3 H locs h hP hS => ?_)
      refine gv_bipush F ⟨by decide, by decide⟩ dX4_readsStatement_194 ?_
      obtain ⟨g4, h⟩ := h
      refine gv_icmp_eq (tgt := 201) F g4 ⟨by decide, by decide⟩ dX4_readsStatement_196 (by decide) (fun c5 => ?_) (fun c5 => ?_)
      · have h := h.1 c5
        refine lv_aload_n F.1 F.2.1 dX4_readsStatement_201 rfl (lv_at hl 0 rfl) ?_
        refine lv_dup F.1 F.2.1 dX4_readsStatement_202 rfl ?_
        refine gv_get F hin4 hK hP 0 rfl rfl 11 (by decide) k767 rfl dX4_readsStatement_203 ?_
        refine gv_iconst F dX4_readsStatement_206 ?_
        refine gv_iadd F dX4_readsStatement_207 ?_
        obtain ⟨z6, ez6⟩ : ∃ z : AR, z = su o 11 ((o 11) + 1) := ⟨_, rfl⟩
        have h := h z6 ez6
        refine gv_put (ws' := wMd cy ad z6 ss mm im wa le ro re fa nu) F hin4 tyX4 tyX4_ok nmX4 hK hP hD hS 0 rfl rfl 11 (by decide) k767 rfl (ty := .int) (by decide +kernel) rfl rfl (Nat.le_of_ble_eq_true rfl) (by subst ez6; exact wMd_o11 rfl) dX4_readsStatement_208 (fun H locs hP hD hS => ?_)
        refine gv_iconst F dX4_readsStatement_211 ?_
        exact ret 1 (z6, nu) H locs 212 ls ⟨Or.inr rfl, h⟩ rfl hP hD hS dX4_readsStatement_212
      · have h := h.2 c5
        refine gv_iconst F dX4_readsStatement_199 ?_
        exact ret 0 (o, nu) H locs 200 ls ⟨Or.inl rfl, h⟩ rfl hP hD hS dX4_readsStatement_200
  refine lv_aload_n F.1 F.2.1 dX4_readsStatement_0 rfl (lv_at hl 0 rfl) ?_
  refine gc_VR (As := []) F hK hA hP hS hP (c_X4_here l D cy ad o ss mm im wa le ro re fa nu _ h) (cwV 0 F.2.2.2.2 (gG_V k824 k826 k36 k67 k827) rfl rfl rfl hd_X4_here ⟨Nat.le_of_ble_eq_true rfl, Nat.le_of_ble_eq_true rfl⟩) rfl rfl dX4_readsStatement_1 rfl rfl hl.1 (Nat.le_of_ble_eq_true rfl) ⟨Nat.le_of_ble_eq_true rfl, Nat.le_of_ble_eq_true rfl⟩ (fun u7 H locs h hP hS => ?_)
  refine lv_istore_n (lv' := [(1, .int (iI u7)), (0, .ref (ad 0))]) F.1 F.2.1 dX4_readsStatement_4 rfl hl (by decide) rfl (fun ls hl => ?_)
  refine lv_aload_n F.1 F.2.1 dX4_readsStatement_5 rfl (lv_at hl 1 rfl) ?_
  refine lv_dup F.1 F.2.1 dX4_readsStatement_6 rfl ?_
  refine gv_get F hin4 hK hP 0 rfl rfl 11 (by decide) k767 rfl dX4_readsStatement_7 ?_
  refine gv_iconst F dX4_readsStatement_10 ?_
  refine gv_iadd F dX4_readsStatement_11 ?_
  obtain ⟨z8, ez8⟩ : ∃ z : AR, z = su o 11 ((o 11) + 1) := ⟨_, rfl⟩
  have h := h z8 ez8
  refine gv_put (ws' := wMd cy ad z8 ss mm im wa le ro re fa nu) F hin4 tyX4 tyX4_ok nmX4 hK hP hD hS 0 rfl rfl 11 (by decide) k767 rfl (ty := .int) (by decide +kernel) rfl rfl (Nat.le_of_ble_eq_true rfl) (by subst ez8; exact wMd_o11 rfl) dX4_readsStatement_12 (fun H locs hP hD hS => ?_)
  refine lv_iload_n F.1 F.2.1 dX4_readsStatement_15 rfl (lv_at hl 0 rfl) ?_
  obtain ⟨g9, h⟩ := h
  by_cases c10 : u7 = 97
  · have h := h.1 c10
    refine gv_lookup (tgt := 76) (off := 60) F g9 dX4_readsStatement_16 (by decide) (by rw [c10]; rfl) (by decide) ?_
    refine lv_aload_n F.1 F.2.1 dX4_readsStatement_76 rfl (lv_at hl 1 rfl) ?_
    refine gv_iconst F dX4_readsStatement_77 ?_
    refine gc_VI (As := [.int (iI 0)]) (wn := fun u : AR × AR => wMd cy ad u.1 ss mm im wa le ro re fa u.2) F hK hA hP hD hS hP hD (fun u H1 _ h1 h2 => ⟨h1, h2⟩) (c_X4_readsDigit l D cy ad z8 ss mm im wa le ro re fa nu 0 _ h) (cwV 1 F.2.2.2.2 (gG_V k828 k830 k37 k67 k831) rfl rfl rfl hd_X4_readsDigit ⟨Nat.le_of_ble_eq_true rfl, Nat.le_of_ble_eq_true rfl⟩) rfl rfl dX4_readsStatement_78 rfl rfl hl.1 (Nat.le_of_ble_eq_true rfl) ⟨Nat.le_of_ble_eq_true rfl, Nat.le_of_ble_eq_true rfl⟩ (fun u13 u H locs h hP hD hS => ?_)
    obtain ⟨z11, z12⟩ := u
    try dsimp only at h hP hD
    obtain ⟨bu13, h⟩ := h
    refine gv_if_eq (tgt := 96) F (gRb bu13) dX4_readsStatement_81 (by decide) (fun c14 => ?_) (fun c14 => ?_)
    · have h := h.1 c14
      refine gv_iconst F dX4_readsStatement_96 ?_
      refine lv_istore_n (lv' := [(2, .int (iI 0)), (1, .int (iI u7)), (0, .ref (ad 0))]) F.1 F.2.1 dX4_readsStatement_97 rfl hl (by decide) rfl (fun ls hl => ?_)
      refine lv_goto (tgt := 186) F.1 F.2.1 dX4_readsStatement_98 (by decide) ?_
      exact L186 0 z11 z12 H locs ls h hP hD hS (lv_sub hl [2, 0] rfl)
    · have h := h.2 c14
      refine lv_aload_n F.1 F.2.1 dX4_readsStatement_84 rfl (lv_at hl 1 rfl) ?_
      refine gv_iconst F dX4_readsStatement_85 ?_
      refine gc_VI (As := [.int (iI 1)]) (wn := fun u : AR × AR => wMd cy ad u.1 ss mm im wa le ro re fa u.2) F hK hA hP hD hS hP hD (fun u H1 _ h1 h2 => ⟨h1, h2⟩) (c_X4_readsDigit l D cy ad z11 ss mm im wa le ro re fa z12 1 _ h) (cwV 1 F.2.2.2.2 (gG_V k828 k830 k37 k67 k831) rfl rfl rfl hd_X4_readsDigit ⟨Nat.le_of_ble_eq_true rfl, Nat.le_of_ble_eq_true rfl⟩) rfl rfl dX4_readsStatement_86 rfl rfl hl.1 (Nat.le_of_ble_eq_true rfl) ⟨Nat.le_of_ble_eq_true rfl, Nat.le_of_ble_eq_true rfl⟩ (fun u17 u H locs h hP hD hS => ?_)
      obtain ⟨z15, z16⟩ := u
      try dsimp only at h hP hD
      obtain ⟨bu17, h⟩ := h
      refine gv_if_eq (tgt := 96) F (gRb bu17) dX4_readsStatement_89 (by decide) (fun c18 => ?_) (fun c18 => ?_)
      · have h := h.1 c18
        refine gv_iconst F dX4_readsStatement_96 ?_
        refine lv_istore_n (lv' := [(2, .int (iI 0)), (1, .int (iI u7)), (0, .ref (ad 0))]) F.1 F.2.1 dX4_readsStatement_97 rfl hl (by decide) rfl (fun ls hl => ?_)
        refine lv_goto (tgt := 186) F.1 F.2.1 dX4_readsStatement_98 (by decide) ?_
        exact L186 0 z15 z16 H locs ls h hP hD hS (lv_sub hl [2, 0] rfl)
      · have h := h.2 c18
        refine gv_iconst F dX4_readsStatement_92 ?_
        refine lv_goto (tgt := 97) F.1 F.2.1 dX4_readsStatement_93 (by decide) ?_
        refine lv_istore_n (lv' := [(2, .int (iI 1)), (1, .int (iI u7)), (0, .ref (ad 0))]) F.1 F.2.1 dX4_readsStatement_97 rfl hl (by decide) rfl (fun ls hl => ?_)
        refine lv_goto (tgt := 186) F.1 F.2.1 dX4_readsStatement_98 (by decide) ?_
        exact L186 1 z15 z16 H locs ls h hP hD hS (lv_sub hl [2, 0] rfl)
  by_cases c19 : u7 = 100
  · have h := h.2.1 c19
    refine gv_lookup (tgt := 76) (off := 60) F g9 dX4_readsStatement_16 (by decide) (by rw [c19]; rfl) (by decide) ?_
    refine lv_aload_n F.1 F.2.1 dX4_readsStatement_76 rfl (lv_at hl 1 rfl) ?_
    refine gv_iconst F dX4_readsStatement_77 ?_
    refine gc_VI (As := [.int (iI 0)]) (wn := fun u : AR × AR => wMd cy ad u.1 ss mm im wa le ro re fa u.2) F hK hA hP hD hS hP hD (fun u H1 _ h1 h2 => ⟨h1, h2⟩) (c_X4_readsDigit l D cy ad z8 ss mm im wa le ro re fa nu 0 _ h) (cwV 1 F.2.2.2.2 (gG_V k828 k830 k37 k67 k831) rfl rfl rfl hd_X4_readsDigit ⟨Nat.le_of_ble_eq_true rfl, Nat.le_of_ble_eq_true rfl⟩) rfl rfl dX4_readsStatement_78 rfl rfl hl.1 (Nat.le_of_ble_eq_true rfl) ⟨Nat.le_of_ble_eq_true rfl, Nat.le_of_ble_eq_true rfl⟩ (fun u22 u H locs h hP hD hS => ?_)
    obtain ⟨z20, z21⟩ := u
    try dsimp only at h hP hD
    obtain ⟨bu22, h⟩ := h
    refine gv_if_eq (tgt := 96) F (gRb bu22) dX4_readsStatement_81 (by decide) (fun c23 => ?_) (fun c23 => ?_)
    · have h := h.1 c23
      refine gv_iconst F dX4_readsStatement_96 ?_
      refine lv_istore_n (lv' := [(2, .int (iI 0)), (1, .int (iI u7)), (0, .ref (ad 0))]) F.1 F.2.1 dX4_readsStatement_97 rfl hl (by decide) rfl (fun ls hl => ?_)
      refine lv_goto (tgt := 186) F.1 F.2.1 dX4_readsStatement_98 (by decide) ?_
      exact L186 0 z20 z21 H locs ls h hP hD hS (lv_sub hl [2, 0] rfl)
    · have h := h.2 c23
      refine lv_aload_n F.1 F.2.1 dX4_readsStatement_84 rfl (lv_at hl 1 rfl) ?_
      refine gv_iconst F dX4_readsStatement_85 ?_
      refine gc_VI (As := [.int (iI 1)]) (wn := fun u : AR × AR => wMd cy ad u.1 ss mm im wa le ro re fa u.2) F hK hA hP hD hS hP hD (fun u H1 _ h1 h2 => ⟨h1, h2⟩) (c_X4_readsDigit l D cy ad z20 ss mm im wa le ro re fa z21 1 _ h) (cwV 1 F.2.2.2.2 (gG_V k828 k830 k37 k67 k831) rfl rfl rfl hd_X4_readsDigit ⟨Nat.le_of_ble_eq_true rfl, Nat.le_of_ble_eq_true rfl⟩) rfl rfl dX4_readsStatement_86 rfl rfl hl.1 (Nat.le_of_ble_eq_true rfl) ⟨Nat.le_of_ble_eq_true rfl, Nat.le_of_ble_eq_true rfl⟩ (fun u26 u H locs h hP hD hS => ?_)
      obtain ⟨z24, z25⟩ := u
      try dsimp only at h hP hD
      obtain ⟨bu26, h⟩ := h
      refine gv_if_eq (tgt := 96) F (gRb bu26) dX4_readsStatement_89 (by decide) (fun c27 => ?_) (fun c27 => ?_)
      · have h := h.1 c27
        refine gv_iconst F dX4_readsStatement_96 ?_
        refine lv_istore_n (lv' := [(2, .int (iI 0)), (1, .int (iI u7)), (0, .ref (ad 0))]) F.1 F.2.1 dX4_readsStatement_97 rfl hl (by decide) rfl (fun ls hl => ?_)
        refine lv_goto (tgt := 186) F.1 F.2.1 dX4_readsStatement_98 (by decide) ?_
        exact L186 0 z24 z25 H locs ls h hP hD hS (lv_sub hl [2, 0] rfl)
      · have h := h.2 c27
        refine gv_iconst F dX4_readsStatement_92 ?_
        refine lv_goto (tgt := 97) F.1 F.2.1 dX4_readsStatement_93 (by decide) ?_
        refine lv_istore_n (lv' := [(2, .int (iI 1)), (1, .int (iI u7)), (0, .ref (ad 0))]) F.1 F.2.1 dX4_readsStatement_97 rfl hl (by decide) rfl (fun ls hl => ?_)
        refine lv_goto (tgt := 186) F.1 F.2.1 dX4_readsStatement_98 (by decide) ?_
        exact L186 1 z24 z25 H locs ls h hP hD hS (lv_sub hl [2, 0] rfl)
  by_cases c28 : u7 = 103
  · have h := h.2.2.1 c28
    refine gv_lookup (tgt := 141) (off := 125) F g9 dX4_readsStatement_16 (by decide) (by rw [c28]; rfl) (by decide) ?_
    refine lv_aload_n F.1 F.2.1 dX4_readsStatement_141 rfl (lv_at hl 1 rfl) ?_
    refine gv_iconst F dX4_readsStatement_142 ?_
    refine gc_VI (As := [.int (iI 0)]) (wn := fun u : AR × AR => wMd cy ad u.1 ss mm im wa le ro re fa u.2) F hK hA hP hD hS hP hD (fun u H1 _ h1 h2 => ⟨h1, h2⟩) (c_X4_readsDigit l D cy ad z8 ss mm im wa le ro re fa nu 0 _ h) (cwV 1 F.2.2.2.2 (gG_V k828 k830 k37 k67 k831) rfl rfl rfl hd_X4_readsDigit ⟨Nat.le_of_ble_eq_true rfl, Nat.le_of_ble_eq_true rfl⟩) rfl rfl dX4_readsStatement_143 rfl rfl hl.1 (Nat.le_of_ble_eq_true rfl) ⟨Nat.le_of_ble_eq_true rfl, Nat.le_of_ble_eq_true rfl⟩ (fun u31 u H locs h hP hD hS => ?_)
    obtain ⟨z29, z30⟩ := u
    try dsimp only at h hP hD
    obtain ⟨bu31, h⟩ := h
    refine gv_if_eq (tgt := 169) F (gRb bu31) dX4_readsStatement_146 (by decide) (fun c32 => ?_) (fun c32 => ?_)
    · have h := h.1 c32
      refine gv_iconst F dX4_readsStatement_169 ?_
      refine lv_istore_n (lv' := [(2, .int (iI 0)), (1, .int (iI u7)), (0, .ref (ad 0))]) F.1 F.2.1 dX4_readsStatement_170 rfl hl (by decide) rfl (fun ls hl => ?_)
      refine lv_goto (tgt := 186) F.1 F.2.1 dX4_readsStatement_171 (by decide) ?_
      exact L186 0 z29 z30 H locs ls h hP hD hS (lv_sub hl [2, 0] rfl)
    · have h := h.2 c32
      refine lv_aload_n F.1 F.2.1 dX4_readsStatement_149 rfl (lv_at hl 1 rfl) ?_
      refine gv_iconst F dX4_readsStatement_150 ?_
      refine gc_VI (As := [.int (iI 1)]) (wn := fun u : AR × AR => wMd cy ad u.1 ss mm im wa le ro re fa u.2) F hK hA hP hD hS hP hD (fun u H1 _ h1 h2 => ⟨h1, h2⟩) (c_X4_readsDigit l D cy ad z29 ss mm im wa le ro re fa z30 1 _ h) (cwV 1 F.2.2.2.2 (gG_V k828 k830 k37 k67 k831) rfl rfl rfl hd_X4_readsDigit ⟨Nat.le_of_ble_eq_true rfl, Nat.le_of_ble_eq_true rfl⟩) rfl rfl dX4_readsStatement_151 rfl rfl hl.1 (Nat.le_of_ble_eq_true rfl) ⟨Nat.le_of_ble_eq_true rfl, Nat.le_of_ble_eq_true rfl⟩ (fun u35 u H locs h hP hD hS => ?_)
      obtain ⟨z33, z34⟩ := u
      try dsimp only at h hP hD
      obtain ⟨bu35, h⟩ := h
      refine gv_if_eq (tgt := 169) F (gRb bu35) dX4_readsStatement_154 (by decide) (fun c36 => ?_) (fun c36 => ?_)
      · have h := h.1 c36
        refine gv_iconst F dX4_readsStatement_169 ?_
        refine lv_istore_n (lv' := [(2, .int (iI 0)), (1, .int (iI u7)), (0, .ref (ad 0))]) F.1 F.2.1 dX4_readsStatement_170 rfl hl (by decide) rfl (fun ls hl => ?_)
        refine lv_goto (tgt := 186) F.1 F.2.1 dX4_readsStatement_171 (by decide) ?_
        exact L186 0 z33 z34 H locs ls h hP hD hS (lv_sub hl [2, 0] rfl)
      · have h := h.2 c36
        refine lv_aload_n F.1 F.2.1 dX4_readsStatement_157 rfl (lv_at hl 1 rfl) ?_
        refine gv_iconst F dX4_readsStatement_158 ?_
        refine gc_VI (As := [.int (iI 2)]) (wn := fun u : AR × AR => wMd cy ad u.1 ss mm im wa le ro re fa u.2) F hK hA hP hD hS hP hD (fun u H1 _ h1 h2 => ⟨h1, h2⟩) (c_X4_readsDigit l D cy ad z33 ss mm im wa le ro re fa z34 2 _ h) (cwV 1 F.2.2.2.2 (gG_V k828 k830 k37 k67 k831) rfl rfl rfl hd_X4_readsDigit ⟨Nat.le_of_ble_eq_true rfl, Nat.le_of_ble_eq_true rfl⟩) rfl rfl dX4_readsStatement_159 rfl rfl hl.1 (Nat.le_of_ble_eq_true rfl) ⟨Nat.le_of_ble_eq_true rfl, Nat.le_of_ble_eq_true rfl⟩ (fun u39 u H locs h hP hD hS => ?_)
        obtain ⟨z37, z38⟩ := u
        try dsimp only at h hP hD
        obtain ⟨bu39, h⟩ := h
        refine gv_if_eq (tgt := 169) F (gRb bu39) dX4_readsStatement_162 (by decide) (fun c40 => ?_) (fun c40 => ?_)
        · have h := h.1 c40
          refine gv_iconst F dX4_readsStatement_169 ?_
          refine lv_istore_n (lv' := [(2, .int (iI 0)), (1, .int (iI u7)), (0, .ref (ad 0))]) F.1 F.2.1 dX4_readsStatement_170 rfl hl (by decide) rfl (fun ls hl => ?_)
          refine lv_goto (tgt := 186) F.1 F.2.1 dX4_readsStatement_171 (by decide) ?_
          exact L186 0 z37 z38 H locs ls h hP hD hS (lv_sub hl [2, 0] rfl)
        · have h := h.2 c40
          refine gv_iconst F dX4_readsStatement_165 ?_
          refine lv_goto (tgt := 170) F.1 F.2.1 dX4_readsStatement_166 (by decide) ?_
          refine lv_istore_n (lv' := [(2, .int (iI 1)), (1, .int (iI u7)), (0, .ref (ad 0))]) F.1 F.2.1 dX4_readsStatement_170 rfl hl (by decide) rfl (fun ls hl => ?_)
          refine lv_goto (tgt := 186) F.1 F.2.1 dX4_readsStatement_171 (by decide) ?_
          exact L186 1 z37 z38 H locs ls h hP hD hS (lv_sub hl [2, 0] rfl)
  by_cases c41 : u7 = 109
  · have h := h.2.2.2.1 c41
    refine gv_lookup (tgt := 76) (off := 60) F g9 dX4_readsStatement_16 (by decide) (by rw [c41]; rfl) (by decide) ?_
    refine lv_aload_n F.1 F.2.1 dX4_readsStatement_76 rfl (lv_at hl 1 rfl) ?_
    refine gv_iconst F dX4_readsStatement_77 ?_
    refine gc_VI (As := [.int (iI 0)]) (wn := fun u : AR × AR => wMd cy ad u.1 ss mm im wa le ro re fa u.2) F hK hA hP hD hS hP hD (fun u H1 _ h1 h2 => ⟨h1, h2⟩) (c_X4_readsDigit l D cy ad z8 ss mm im wa le ro re fa nu 0 _ h) (cwV 1 F.2.2.2.2 (gG_V k828 k830 k37 k67 k831) rfl rfl rfl hd_X4_readsDigit ⟨Nat.le_of_ble_eq_true rfl, Nat.le_of_ble_eq_true rfl⟩) rfl rfl dX4_readsStatement_78 rfl rfl hl.1 (Nat.le_of_ble_eq_true rfl) ⟨Nat.le_of_ble_eq_true rfl, Nat.le_of_ble_eq_true rfl⟩ (fun u44 u H locs h hP hD hS => ?_)
    obtain ⟨z42, z43⟩ := u
    try dsimp only at h hP hD
    obtain ⟨bu44, h⟩ := h
    refine gv_if_eq (tgt := 96) F (gRb bu44) dX4_readsStatement_81 (by decide) (fun c45 => ?_) (fun c45 => ?_)
    · have h := h.1 c45
      refine gv_iconst F dX4_readsStatement_96 ?_
      refine lv_istore_n (lv' := [(2, .int (iI 0)), (1, .int (iI u7)), (0, .ref (ad 0))]) F.1 F.2.1 dX4_readsStatement_97 rfl hl (by decide) rfl (fun ls hl => ?_)
      refine lv_goto (tgt := 186) F.1 F.2.1 dX4_readsStatement_98 (by decide) ?_
      exact L186 0 z42 z43 H locs ls h hP hD hS (lv_sub hl [2, 0] rfl)
    · have h := h.2 c45
      refine lv_aload_n F.1 F.2.1 dX4_readsStatement_84 rfl (lv_at hl 1 rfl) ?_
      refine gv_iconst F dX4_readsStatement_85 ?_
      refine gc_VI (As := [.int (iI 1)]) (wn := fun u : AR × AR => wMd cy ad u.1 ss mm im wa le ro re fa u.2) F hK hA hP hD hS hP hD (fun u H1 _ h1 h2 => ⟨h1, h2⟩) (c_X4_readsDigit l D cy ad z42 ss mm im wa le ro re fa z43 1 _ h) (cwV 1 F.2.2.2.2 (gG_V k828 k830 k37 k67 k831) rfl rfl rfl hd_X4_readsDigit ⟨Nat.le_of_ble_eq_true rfl, Nat.le_of_ble_eq_true rfl⟩) rfl rfl dX4_readsStatement_86 rfl rfl hl.1 (Nat.le_of_ble_eq_true rfl) ⟨Nat.le_of_ble_eq_true rfl, Nat.le_of_ble_eq_true rfl⟩ (fun u48 u H locs h hP hD hS => ?_)
      obtain ⟨z46, z47⟩ := u
      try dsimp only at h hP hD
      obtain ⟨bu48, h⟩ := h
      refine gv_if_eq (tgt := 96) F (gRb bu48) dX4_readsStatement_89 (by decide) (fun c49 => ?_) (fun c49 => ?_)
      · have h := h.1 c49
        refine gv_iconst F dX4_readsStatement_96 ?_
        refine lv_istore_n (lv' := [(2, .int (iI 0)), (1, .int (iI u7)), (0, .ref (ad 0))]) F.1 F.2.1 dX4_readsStatement_97 rfl hl (by decide) rfl (fun ls hl => ?_)
        refine lv_goto (tgt := 186) F.1 F.2.1 dX4_readsStatement_98 (by decide) ?_
        exact L186 0 z46 z47 H locs ls h hP hD hS (lv_sub hl [2, 0] rfl)
      · have h := h.2 c49
        refine gv_iconst F dX4_readsStatement_92 ?_
        refine lv_goto (tgt := 97) F.1 F.2.1 dX4_readsStatement_93 (by decide) ?_
        refine lv_istore_n (lv' := [(2, .int (iI 1)), (1, .int (iI u7)), (0, .ref (ad 0))]) F.1 F.2.1 dX4_readsStatement_97 rfl hl (by decide) rfl (fun ls hl => ?_)
        refine lv_goto (tgt := 186) F.1 F.2.1 dX4_readsStatement_98 (by decide) ?_
        exact L186 1 z46 z47 H locs ls h hP hD hS (lv_sub hl [2, 0] rfl)
  by_cases c50 : u7 = 113
  · have h := h.2.2.2.2.1 c50
    refine gv_lookup (tgt := 101) (off := 85) F g9 dX4_readsStatement_16 (by decide) (by rw [c50]; rfl) (by decide) ?_
    refine lv_aload_n F.1 F.2.1 dX4_readsStatement_101 rfl (lv_at hl 1 rfl) ?_
    refine gc_VI (As := []) (wn := fun u : AR × AR => wMd cy ad u.1 ss mm im wa le ro re fa u.2) F hK hA hP hD hS hP hD (fun u H1 _ h1 h2 => ⟨h1, h2⟩) (c_X4_readsKind l D cy ad z8 ss mm im wa le ro re fa nu _ h) (cwV 0 F.2.2.2.2 (gG_V k835 k837 k38 k67 k838) rfl rfl rfl hd_X4_readsKind ⟨Nat.le_of_ble_eq_true rfl, Nat.le_of_ble_eq_true rfl⟩) rfl rfl dX4_readsStatement_102 rfl rfl hl.1 (Nat.le_of_ble_eq_true rfl) ⟨Nat.le_of_ble_eq_true rfl, Nat.le_of_ble_eq_true rfl⟩ (fun u53 u H locs h hP hD hS => ?_)
    obtain ⟨z51, z52⟩ := u
    try dsimp only at h hP hD
    obtain ⟨bu53, h⟩ := h
    refine gv_if_eq (tgt := 136) F (gRb bu53) dX4_readsStatement_105 (by decide) (fun c54 => ?_) (fun c54 => ?_)
    · have h := h.1 c54
      refine gv_iconst F dX4_readsStatement_136 ?_
      refine lv_istore_n (lv' := [(2, .int (iI 0)), (1, .int (iI u7)), (0, .ref (ad 0))]) F.1 F.2.1 dX4_readsStatement_137 rfl hl (by decide) rfl (fun ls hl => ?_)
      refine lv_goto (tgt := 186) F.1 F.2.1 dX4_readsStatement_138 (by decide) ?_
      exact L186 0 z51 z52 H locs ls h hP hD hS (lv_sub hl [2, 0] rfl)
    · have h := h.2 c54
      refine lv_aload_n F.1 F.2.1 dX4_readsStatement_108 rfl (lv_at hl 1 rfl) ?_
      refine gv_iconst F dX4_readsStatement_109 ?_
      refine gc_VI (As := [.int (iI 1)]) (wn := fun u : AR × AR => wMd cy ad u.1 ss mm im wa le ro re fa u.2) F hK hA hP hD hS hP hD (fun u H1 _ h1 h2 => ⟨h1, h2⟩) (c_X4_readsDigit l D cy ad z51 ss mm im wa le ro re fa z52 1 _ h) (cwV 1 F.2.2.2.2 (gG_V k828 k830 k37 k67 k831) rfl rfl rfl hd_X4_readsDigit ⟨Nat.le_of_ble_eq_true rfl, Nat.le_of_ble_eq_true rfl⟩) rfl rfl dX4_readsStatement_110 rfl rfl hl.1 (Nat.le_of_ble_eq_true rfl) ⟨Nat.le_of_ble_eq_true rfl, Nat.le_of_ble_eq_true rfl⟩ (fun u57 u H locs h hP hD hS => ?_)
      obtain ⟨z55, z56⟩ := u
      try dsimp only at h hP hD
      obtain ⟨bu57, h⟩ := h
      refine gv_if_eq (tgt := 136) F (gRb bu57) dX4_readsStatement_113 (by decide) (fun c58 => ?_) (fun c58 => ?_)
      · have h := h.1 c58
        refine gv_iconst F dX4_readsStatement_136 ?_
        refine lv_istore_n (lv' := [(2, .int (iI 0)), (1, .int (iI u7)), (0, .ref (ad 0))]) F.1 F.2.1 dX4_readsStatement_137 rfl hl (by decide) rfl (fun ls hl => ?_)
        refine lv_goto (tgt := 186) F.1 F.2.1 dX4_readsStatement_138 (by decide) ?_
        exact L186 0 z55 z56 H locs ls h hP hD hS (lv_sub hl [2, 0] rfl)
      · have h := h.2 c58
        refine lv_aload_n F.1 F.2.1 dX4_readsStatement_116 rfl (lv_at hl 1 rfl) ?_
        refine gv_iconst F dX4_readsStatement_117 ?_
        refine gc_VI (As := [.int (iI 2)]) (wn := fun u : AR × AR => wMd cy ad u.1 ss mm im wa le ro re fa u.2) F hK hA hP hD hS hP hD (fun u H1 _ h1 h2 => ⟨h1, h2⟩) (c_X4_readsDigit l D cy ad z55 ss mm im wa le ro re fa z56 2 _ h) (cwV 1 F.2.2.2.2 (gG_V k828 k830 k37 k67 k831) rfl rfl rfl hd_X4_readsDigit ⟨Nat.le_of_ble_eq_true rfl, Nat.le_of_ble_eq_true rfl⟩) rfl rfl dX4_readsStatement_118 rfl rfl hl.1 (Nat.le_of_ble_eq_true rfl) ⟨Nat.le_of_ble_eq_true rfl, Nat.le_of_ble_eq_true rfl⟩ (fun u61 u H locs h hP hD hS => ?_)
        obtain ⟨z59, z60⟩ := u
        try dsimp only at h hP hD
        obtain ⟨bu61, h⟩ := h
        refine gv_if_eq (tgt := 136) F (gRb bu61) dX4_readsStatement_121 (by decide) (fun c62 => ?_) (fun c62 => ?_)
        · have h := h.1 c62
          refine gv_iconst F dX4_readsStatement_136 ?_
          refine lv_istore_n (lv' := [(2, .int (iI 0)), (1, .int (iI u7)), (0, .ref (ad 0))]) F.1 F.2.1 dX4_readsStatement_137 rfl hl (by decide) rfl (fun ls hl => ?_)
          refine lv_goto (tgt := 186) F.1 F.2.1 dX4_readsStatement_138 (by decide) ?_
          exact L186 0 z59 z60 H locs ls h hP hD hS (lv_sub hl [2, 0] rfl)
        · have h := h.2 c62
          refine lv_aload_n F.1 F.2.1 dX4_readsStatement_124 rfl (lv_at hl 1 rfl) ?_
          refine gv_iconst F dX4_readsStatement_125 ?_
          refine gc_VI (As := [.int (iI 3)]) (wn := fun u : AR × AR => wMd cy ad u.1 ss mm im wa le ro re fa u.2) F hK hA hP hD hS hP hD (fun u H1 _ h1 h2 => ⟨h1, h2⟩) (c_X4_readsDigit l D cy ad z59 ss mm im wa le ro re fa z60 3 _ h) (cwV 1 F.2.2.2.2 (gG_V k828 k830 k37 k67 k831) rfl rfl rfl hd_X4_readsDigit ⟨Nat.le_of_ble_eq_true rfl, Nat.le_of_ble_eq_true rfl⟩) rfl rfl dX4_readsStatement_126 rfl rfl hl.1 (Nat.le_of_ble_eq_true rfl) ⟨Nat.le_of_ble_eq_true rfl, Nat.le_of_ble_eq_true rfl⟩ (fun u65 u H locs h hP hD hS => ?_)
          obtain ⟨z63, z64⟩ := u
          try dsimp only at h hP hD
          obtain ⟨bu65, h⟩ := h
          refine gv_if_eq (tgt := 136) F (gRb bu65) dX4_readsStatement_129 (by decide) (fun c66 => ?_) (fun c66 => ?_)
          · have h := h.1 c66
            refine gv_iconst F dX4_readsStatement_136 ?_
            refine lv_istore_n (lv' := [(2, .int (iI 0)), (1, .int (iI u7)), (0, .ref (ad 0))]) F.1 F.2.1 dX4_readsStatement_137 rfl hl (by decide) rfl (fun ls hl => ?_)
            refine lv_goto (tgt := 186) F.1 F.2.1 dX4_readsStatement_138 (by decide) ?_
            exact L186 0 z63 z64 H locs ls h hP hD hS (lv_sub hl [2, 0] rfl)
          · have h := h.2 c66
            refine gv_iconst F dX4_readsStatement_132 ?_
            refine lv_goto (tgt := 137) F.1 F.2.1 dX4_readsStatement_133 (by decide) ?_
            refine lv_istore_n (lv' := [(2, .int (iI 1)), (1, .int (iI u7)), (0, .ref (ad 0))]) F.1 F.2.1 dX4_readsStatement_137 rfl hl (by decide) rfl (fun ls hl => ?_)
            refine lv_goto (tgt := 186) F.1 F.2.1 dX4_readsStatement_138 (by decide) ?_
            exact L186 1 z63 z64 H locs ls h hP hD hS (lv_sub hl [2, 0] rfl)
  by_cases c67 : u7 = 119
  · have h := h.2.2.2.2.2.1 c67
    refine gv_lookup (tgt := 141) (off := 125) F g9 dX4_readsStatement_16 (by decide) (by rw [c67]; rfl) (by decide) ?_
    refine lv_aload_n F.1 F.2.1 dX4_readsStatement_141 rfl (lv_at hl 1 rfl) ?_
    refine gv_iconst F dX4_readsStatement_142 ?_
    refine gc_VI (As := [.int (iI 0)]) (wn := fun u : AR × AR => wMd cy ad u.1 ss mm im wa le ro re fa u.2) F hK hA hP hD hS hP hD (fun u H1 _ h1 h2 => ⟨h1, h2⟩) (c_X4_readsDigit l D cy ad z8 ss mm im wa le ro re fa nu 0 _ h) (cwV 1 F.2.2.2.2 (gG_V k828 k830 k37 k67 k831) rfl rfl rfl hd_X4_readsDigit ⟨Nat.le_of_ble_eq_true rfl, Nat.le_of_ble_eq_true rfl⟩) rfl rfl dX4_readsStatement_143 rfl rfl hl.1 (Nat.le_of_ble_eq_true rfl) ⟨Nat.le_of_ble_eq_true rfl, Nat.le_of_ble_eq_true rfl⟩ (fun u70 u H locs h hP hD hS => ?_)
    obtain ⟨z68, z69⟩ := u
    try dsimp only at h hP hD
    obtain ⟨bu70, h⟩ := h
    refine gv_if_eq (tgt := 169) F (gRb bu70) dX4_readsStatement_146 (by decide) (fun c71 => ?_) (fun c71 => ?_)
    · have h := h.1 c71
      refine gv_iconst F dX4_readsStatement_169 ?_
      refine lv_istore_n (lv' := [(2, .int (iI 0)), (1, .int (iI u7)), (0, .ref (ad 0))]) F.1 F.2.1 dX4_readsStatement_170 rfl hl (by decide) rfl (fun ls hl => ?_)
      refine lv_goto (tgt := 186) F.1 F.2.1 dX4_readsStatement_171 (by decide) ?_
      exact L186 0 z68 z69 H locs ls h hP hD hS (lv_sub hl [2, 0] rfl)
    · have h := h.2 c71
      refine lv_aload_n F.1 F.2.1 dX4_readsStatement_149 rfl (lv_at hl 1 rfl) ?_
      refine gv_iconst F dX4_readsStatement_150 ?_
      refine gc_VI (As := [.int (iI 1)]) (wn := fun u : AR × AR => wMd cy ad u.1 ss mm im wa le ro re fa u.2) F hK hA hP hD hS hP hD (fun u H1 _ h1 h2 => ⟨h1, h2⟩) (c_X4_readsDigit l D cy ad z68 ss mm im wa le ro re fa z69 1 _ h) (cwV 1 F.2.2.2.2 (gG_V k828 k830 k37 k67 k831) rfl rfl rfl hd_X4_readsDigit ⟨Nat.le_of_ble_eq_true rfl, Nat.le_of_ble_eq_true rfl⟩) rfl rfl dX4_readsStatement_151 rfl rfl hl.1 (Nat.le_of_ble_eq_true rfl) ⟨Nat.le_of_ble_eq_true rfl, Nat.le_of_ble_eq_true rfl⟩ (fun u74 u H locs h hP hD hS => ?_)
      obtain ⟨z72, z73⟩ := u
      try dsimp only at h hP hD
      obtain ⟨bu74, h⟩ := h
      refine gv_if_eq (tgt := 169) F (gRb bu74) dX4_readsStatement_154 (by decide) (fun c75 => ?_) (fun c75 => ?_)
      · have h := h.1 c75
        refine gv_iconst F dX4_readsStatement_169 ?_
        refine lv_istore_n (lv' := [(2, .int (iI 0)), (1, .int (iI u7)), (0, .ref (ad 0))]) F.1 F.2.1 dX4_readsStatement_170 rfl hl (by decide) rfl (fun ls hl => ?_)
        refine lv_goto (tgt := 186) F.1 F.2.1 dX4_readsStatement_171 (by decide) ?_
        exact L186 0 z72 z73 H locs ls h hP hD hS (lv_sub hl [2, 0] rfl)
      · have h := h.2 c75
        refine lv_aload_n F.1 F.2.1 dX4_readsStatement_157 rfl (lv_at hl 1 rfl) ?_
        refine gv_iconst F dX4_readsStatement_158 ?_
        refine gc_VI (As := [.int (iI 2)]) (wn := fun u : AR × AR => wMd cy ad u.1 ss mm im wa le ro re fa u.2) F hK hA hP hD hS hP hD (fun u H1 _ h1 h2 => ⟨h1, h2⟩) (c_X4_readsDigit l D cy ad z72 ss mm im wa le ro re fa z73 2 _ h) (cwV 1 F.2.2.2.2 (gG_V k828 k830 k37 k67 k831) rfl rfl rfl hd_X4_readsDigit ⟨Nat.le_of_ble_eq_true rfl, Nat.le_of_ble_eq_true rfl⟩) rfl rfl dX4_readsStatement_159 rfl rfl hl.1 (Nat.le_of_ble_eq_true rfl) ⟨Nat.le_of_ble_eq_true rfl, Nat.le_of_ble_eq_true rfl⟩ (fun u78 u H locs h hP hD hS => ?_)
        obtain ⟨z76, z77⟩ := u
        try dsimp only at h hP hD
        obtain ⟨bu78, h⟩ := h
        refine gv_if_eq (tgt := 169) F (gRb bu78) dX4_readsStatement_162 (by decide) (fun c79 => ?_) (fun c79 => ?_)
        · have h := h.1 c79
          refine gv_iconst F dX4_readsStatement_169 ?_
          refine lv_istore_n (lv' := [(2, .int (iI 0)), (1, .int (iI u7)), (0, .ref (ad 0))]) F.1 F.2.1 dX4_readsStatement_170 rfl hl (by decide) rfl (fun ls hl => ?_)
          refine lv_goto (tgt := 186) F.1 F.2.1 dX4_readsStatement_171 (by decide) ?_
          exact L186 0 z76 z77 H locs ls h hP hD hS (lv_sub hl [2, 0] rfl)
        · have h := h.2 c79
          refine gv_iconst F dX4_readsStatement_165 ?_
          refine lv_goto (tgt := 170) F.1 F.2.1 dX4_readsStatement_166 (by decide) ?_
          refine lv_istore_n (lv' := [(2, .int (iI 1)), (1, .int (iI u7)), (0, .ref (ad 0))]) F.1 F.2.1 dX4_readsStatement_170 rfl hl (by decide) rfl (fun ls hl => ?_)
          refine lv_goto (tgt := 186) F.1 F.2.1 dX4_readsStatement_171 (by decide) ?_
          exact L186 1 z76 z77 H locs ls h hP hD hS (lv_sub hl [2, 0] rfl)
  have cd : ¬ u7 = 97 ∧ ¬ u7 = 100 ∧ ¬ u7 = 103 ∧ ¬ u7 = 109 ∧ ¬ u7 = 113 ∧ ¬ u7 = 119 := ⟨c10, c19, c28, c41, c50, c67⟩
  have h := h.2.2.2.2.2.2 cd
  refine gv_lookup (tgt := 174) (off := 158) F g9 dX4_readsStatement_16 (by decide) (by rw [Op.lookupswitch.offset_cons, if_neg (fun q => c10 q.symm)]; rw [Op.lookupswitch.offset_cons, if_neg (fun q => c19 q.symm)]; rw [Op.lookupswitch.offset_cons, if_neg (fun q => c28 q.symm)]; rw [Op.lookupswitch.offset_cons, if_neg (fun q => c41 q.symm)]; rw [Op.lookupswitch.offset_cons, if_neg (fun q => c50 q.symm)]; rw [Op.lookupswitch.offset_cons, if_neg (fun q => c67 q.symm)]; rfl) (by decide) ?_
  refine lv_aload_n F.1 F.2.1 dX4_readsStatement_174 rfl (lv_at hl 1 rfl) ?_
  refine lv_dup F.1 F.2.1 dX4_readsStatement_175 rfl ?_
  refine gv_get F hin4 hK hP 0 rfl rfl 11 (by decide) k767 rfl dX4_readsStatement_176 ?_
  refine gv_iconst F dX4_readsStatement_179 ?_
  refine gv_isub F dX4_readsStatement_180 ?_
  obtain ⟨z80, ez80⟩ : ∃ z : AR, z = su z8 11 ((z8 11) - 1) := ⟨_, rfl⟩
  have h := h z80 ez80
  refine gv_put (ws' := wMd cy ad z80 ss mm im wa le ro re fa nu) F hin4 tyX4 tyX4_ok nmX4 hK hP hD hS 0 rfl rfl 11 (by decide) k767 rfl (ty := .int) (by decide +kernel) rfl rfl (Nat.le_of_ble_eq_true rfl) (by subst ez80; exact wMd_o11 rfl) dX4_readsStatement_181 (fun H locs hP hD hS => ?_)
  refine gv_iconst F dX4_readsStatement_184 ?_
  exact ret 0 (z80, nu) H locs 185 ls ⟨Or.inl rfl, h⟩ rfl hP hD hS dX4_readsStatement_185
abbrev rX4_turnsDoor : Room := { frames := 0, cells := 0, slots := 0, locals := 0 }
set_option maxHeartbeats 4000000 in
set_option maxRecDepth 20000 in
theorem c_X4_turnsDoor (l : Launch) (D : va_G) (cy : ClassId) (ad : Nat → Nat) (o : AR) (ss : AR) (mm : AR) (im : AR) (wa : AR) (le : AR) (ro : AR) (re : AR) (fa : AR) (nu : AR) (x1 x2 : Int) (Q : AR → Prop) (h : wX4_turnsDoor ss x1 x2 Q) : MetV l yX4_turnsDoor (wT yX4_turnsDoor cX4_turnsDoor 3 none) rX4_turnsDoor D cy [.ref (ad 0), .int (iI x1), .int (iI x2)] (wMd cy ad o ss mm im wa le ro re fa nu) (fun u : AR => wMd cy ad o u mm im wa le ro re fa nu) (fun u => Q u) := by
  refine gI_V (by decide) (Nat.le_of_ble_eq_true rfl) ?_
  intro p e s m args below meth c A Qg F hK hA ret H locs ls hl hP hD hS
  have F : CallFix p m c cX4_turnsDoor 3 s args gT RX4 := F
  have hl : lv_has ls 3 [(0, .ref (ad 0)), (1, .int (iI x1)), (2, .int (iI x2))] := hl
  refine lv_aload_n F.1 F.2.1 dX4_turnsDoor_0 rfl (lv_at hl 0 rfl) ?_
  refine gv_get F hin4 hK hP 0 rfl rfl 0 (by decide) k756 rfl dX4_turnsDoor_1 ?_
  refine gv_iconst F dX4_turnsDoor_4 ?_
  refine lv_iload_n F.1 F.2.1 dX4_turnsDoor_5 rfl (lv_at hl 1 rfl) ?_
  refine gv_iadd F dX4_turnsDoor_6 ?_
  refine lv_dup2_11 F.1 F.2.1 dX4_turnsDoor_7 rfl rfl ?_
  obtain ⟨g1, h⟩ := h
  refine gv_iald (n := 147) (g := ss) F hK hP 1 rfl rfl (by decide) g1 dX4_turnsDoor_8 ?_
  refine gv_iconst F dX4_turnsDoor_9 ?_
  refine lv_iload_n F.1 F.2.1 dX4_turnsDoor_10 rfl (lv_at hl 2 rfl) ?_
  obtain ⟨g2, h⟩ := h
  refine gv_ishl F g2 dX4_turnsDoor_11 ?_
  obtain ⟨g3, h⟩ := h
  refine gv_ixor F g3 dX4_turnsDoor_12 ?_
  obtain ⟨g4, h⟩ := h
  obtain ⟨z5, ez5⟩ : ∃ z : AR, z = su ss (3 + x1) (gxor (ss (3 + x1)) ((1 : Int) * 2 ^ (x2 : Int).toNat)) := ⟨_, rfl⟩
  have h := h z5 ez5
  refine gv_iast (n := 147) (g := ss) (ws' := wMd cy ad o z5 mm im wa le ro re fa nu) F hK hP hD hS 1 rfl rfl (by decide) g4 (by subst ez5; exact rfl) dX4_turnsDoor_13 (fun H locs hP hD hS => ?_)
  refine lv_aload_n F.1 F.2.1 dX4_turnsDoor_14 rfl (lv_at hl 0 rfl) ?_
  refine gv_get F hin4 hK hP 0 rfl rfl 0 (by decide) k756 rfl dX4_turnsDoor_15 ?_
  refine gv_iconst F dX4_turnsDoor_18 ?_
  refine lv_iload_n F.1 F.2.1 dX4_turnsDoor_19 rfl (lv_at hl 2 rfl) ?_
  refine gv_iadd F dX4_turnsDoor_20 ?_
  refine lv_dup2_11 F.1 F.2.1 dX4_turnsDoor_21 rfl rfl ?_
  obtain ⟨g6, h⟩ := h
  refine gv_iald (n := 147) (g := z5) F hK hP 1 rfl rfl (by decide) g6 dX4_turnsDoor_22 ?_
  refine gv_iconst F dX4_turnsDoor_23 ?_
  refine lv_iload_n F.1 F.2.1 dX4_turnsDoor_24 rfl (lv_at hl 1 rfl) ?_
  obtain ⟨g7, h⟩ := h
  refine gv_ishl F g7 dX4_turnsDoor_25 ?_
  obtain ⟨g8, h⟩ := h
  refine gv_ixor F g8 dX4_turnsDoor_26 ?_
  obtain ⟨g9, h⟩ := h
  obtain ⟨z10, ez10⟩ : ∃ z : AR, z = su z5 (3 + x2) (gxor (z5 (3 + x2)) ((1 : Int) * 2 ^ (x1 : Int).toNat)) := ⟨_, rfl⟩
  have h := h z10 ez10
  refine gv_iast (n := 147) (g := z5) (ws' := wMd cy ad o z10 mm im wa le ro re fa nu) F hK hP hD hS 1 rfl rfl (by decide) g9 (by subst ez10; exact rfl) dX4_turnsDoor_27 (fun H locs hP hD hS => ?_)
  exact ret z10 H locs 28 ls h hP hD hS dX4_turnsDoor_28
abbrev rX4_isDone : Room := { frames := 6, cells := 0, slots := 0, locals := 141 }
set_option maxHeartbeats 4000000 in
set_option maxRecDepth 20000 in
theorem c_X4_isDone (l : Launch) (D : va_G) (cy : ClassId) (ad : Nat → Nat) (o : AR) (ss : AR) (mm : AR) (im : AR) (wa : AR) (le : AR) (ro : AR) (re : AR) (fa : AR) (nu : AR) (x1 : Int) (Q : Int → AR → AR → Prop) (h : wX4_isDone ss fa nu x1 Q) : MetI l yX4_isDone (wT yX4_isDone cX4_isDone 5 (some .boolean)) rX4_isDone D cy [.ref (ad 0), .int (iI x1)] (wMd cy ad o ss mm im wa le ro re fa nu) (fun u : AR × AR => wMd cy ad o u.1 mm im wa le ro re u.2 nu) (fun r u => (r = 0 ∨ r = 1) ∧ Q r u.1 u.2) := by
  refine gI_I (by decide) (Nat.le_of_ble_eq_true rfl) ?_
  intro p e s m args below meth c A Qg F hK hA ret H locs ls hl hP hD hS
  have F : CallFix p m c cX4_isDone 5 s args gT RX4 := F
  have hl : lv_has ls 5 [(0, .ref (ad 0)), (1, .int (iI x1))] := hl
  have L275 : ∀ (n : Nat) (y4 : Int) (ss : AR) (fa : AR) (H : Heap) (locs : List Loc) (ls : Array Slot), wX4_isDone_275 nu Q n y4 ss fa → va_P D vwCl (wMd cy ad o ss mm im wa le ro re fa nu) H → va_D A (wMd cy ad o ss mm im wa le ro re fa nu) → va_S A s.heap H locs → lv_has ls 5 [(0, .ref (ad 0)), (4, .int (iI y4))] → W p l e rX4_isDone s m args below meth c H locs 0 0 Qg (F0 m 275 ls []) := by
    intro  n
    induction n with
    | zero => intro _ _ _ _ _ _ h; exact h.elim
    | succ n ih =>
      intro y4 ss fa H locs ls h hP hD hS hl
      rw [wX4_isDone_275_s] at h
      refine lv_iload F.1 F.2.1 dX4_isDone_275 (lv_at hl 1 rfl) ?_
      refine gv_bipush F ⟨by decide, by decide⟩ dX4_isDone_277 ?_
      obtain ⟨g1, h⟩ := h
      refine gv_icmp_ge (tgt := 306) F g1 ⟨by decide, by decide⟩ dX4_isDone_279 (by decide) (fun c2 => ?_) (fun c2 => ?_)
      · have h := h.1 c2
        refine lv_aload_n F.1 F.2.1 dX4_isDone_306 rfl (lv_at hl 0 rfl) ?_
        refine gv_get F hin4 hK hP 0 rfl rfl 0 (by decide) k756 rfl dX4_isDone_307 ?_
        refine gv_iconst F dX4_isDone_310 ?_
        refine lv_dup2_11 F.1 F.2.1 dX4_isDone_311 rfl rfl ?_
        refine gv_iald (n := 147) (g := ss) F hK hP 1 rfl rfl (by decide) ⟨by decide, by decide⟩ dX4_isDone_312 ?_
        refine gv_iconst F dX4_isDone_313 ?_
        refine gv_iadd F dX4_isDone_314 ?_
        obtain ⟨z3, ez3⟩ : ∃ z : AR, z = su ss 1 ((ss 1) + 1) := ⟨_, rfl⟩
        have h := h z3 ez3
        refine gv_iast (n := 147) (g := ss) (ws' := wMd cy ad o z3 mm im wa le ro re fa nu) F hK hP hD hS 1 rfl rfl (by decide) ⟨by decide, by decide⟩ (by subst ez3; exact rfl) dX4_isDone_315 (fun H locs hP hD hS => ?_)
        refine gv_iconst F dX4_isDone_316 ?_
        exact ret 1 (z3, fa) H locs 317 ls ⟨Or.inr rfl, h⟩ rfl hP hD hS dX4_isDone_317
      · have h := h.2 c2
        refine lv_aload_n F.1 F.2.1 dX4_isDone_282 rfl (lv_at hl 0 rfl) ?_
        refine gv_get F hin4 hK hP 0 rfl rfl 0 (by decide) k756 rfl dX4_isDone_283 ?_
        refine lv_aload_n F.1 F.2.1 dX4_isDone_286 rfl (lv_at hl 0 rfl) ?_
        refine gv_get F hin4 hK hP 0 rfl rfl 0 (by decide) k756 rfl dX4_isDone_287 ?_
        refine gv_iconst F dX4_isDone_290 ?_
        refine gv_iald (n := 147) (g := ss) F hK hP 1 rfl rfl (by decide) ⟨by decide, by decide⟩ dX4_isDone_291 ?_
        refine lv_iload F.1 F.2.1 dX4_isDone_292 (lv_at hl 1 rfl) ?_
        refine gc_SR (As := [.int (iI (ss 1)), .int (iI y4)]) F hK hA hP hS gPnil (c_X4_sheetOf l D cy (ss 1) y4 _ h) (cwS 2 F.2.2.2.2 (gG_S k859 k860 k67 k861) rfl rfl rfl hd_X4_sheetOf ⟨Nat.le_of_ble_eq_true rfl, Nat.le_of_ble_eq_true rfl⟩) dX4_isDone_294 rfl rfl hl.1 (Nat.le_of_ble_eq_true rfl) ⟨Nat.le_of_ble_eq_true rfl, Nat.le_of_ble_eq_true rfl⟩ (fun u4 H locs h hP hS => ?_)
        refine gv_bipush F ⟨by decide, by decide⟩ dX4_isDone_297 ?_
        obtain ⟨g5, h⟩ := h
        obtain ⟨z6, ez6⟩ : ∃ z : AR, z = su ss u4 (-9) := ⟨_, rfl⟩
        have h := h z6 ez6
        refine gv_iast (n := 147) (g := ss) (ws' := wMd cy ad o z6 mm im wa le ro re fa nu) F hK hP hD hS 1 rfl rfl (by decide) g5 (by subst ez6; exact rfl) dX4_isDone_299 (fun H locs hP hD hS => ?_)
        obtain ⟨v7, ev7⟩ : ∃ z : Int, z = y4 + 1 := ⟨_, rfl⟩
        have h := h v7 ev7
        refine gv_iinc (lv' := [(4, .int (iI v7)), (0, .ref (ad 0))]) F dX4_isDone_300 hl (k := 1) rfl ev7 (by decide) rfl (fun ls hl => ?_)
        refine lv_goto (tgt := 275) F.1 F.2.1 dX4_isDone_303 (by decide) ?_
        exact ih v7 z6 fa H locs ls h hP hD hS (lv_sub hl [1, 0] rfl)
  have L227 : ∀ (n : Nat) (y4 : Int) (ss : AR) (fa : AR) (H : Heap) (locs : List Loc) (ls : Array Slot), wX4_isDone_227 nu Q n y4 ss fa → va_P D vwCl (wMd cy ad o ss mm im wa le ro re fa nu) H → va_D A (wMd cy ad o ss mm im wa le ro re fa nu) → va_S A s.heap H locs → lv_has ls 5 [(0, .ref (ad 0)), (4, .int (iI y4))] → W p l e rX4_isDone s m args below meth c H locs 0 0 Qg (F0 m 227 ls []) := by
    intro  n
    induction n with
    | zero => intro _ _ _ _ _ _ h; exact h.elim
    | succ n ih =>
      intro y4 ss fa H locs ls h hP hD hS hl
      rw [wX4_isDone_227_s] at h
      refine lv_iload F.1 F.2.1 dX4_isDone_227 (lv_at hl 1 rfl) ?_
      refine gv_iconst F dX4_isDone_229 ?_
      obtain ⟨g8, h⟩ := h
      refine gv_icmp_ge (tgt := 272) F g8 ⟨by decide, by decide⟩ dX4_isDone_230 (by decide) (fun c9 => ?_) (fun c9 => ?_)
      · have h := h.1 c9
        refine gv_iconst F dX4_isDone_272 ?_
        refine lv_istore (lv' := [(4, .int (iI 0)), (0, .ref (ad 0))]) F.1 F.2.1 dX4_isDone_273 hl (by decide) rfl (fun ls hl => ?_)
        obtain ⟨n10, h⟩ := h
        exact L275 n10 0 ss fa H locs ls h hP hD hS (lv_sub hl [1, 0] rfl)
      · have h := h.2 c9
        refine lv_aload_n F.1 F.2.1 dX4_isDone_233 rfl (lv_at hl 0 rfl) ?_
        refine gv_get F hin4 hK hP 0 rfl rfl 0 (by decide) k756 rfl dX4_isDone_234 ?_
        refine lv_aload_n F.1 F.2.1 dX4_isDone_237 rfl (lv_at hl 0 rfl) ?_
        refine gv_get F hin4 hK hP 0 rfl rfl 0 (by decide) k756 rfl dX4_isDone_238 ?_
        refine gv_iconst F dX4_isDone_241 ?_
        refine gv_iald (n := 147) (g := ss) F hK hP 1 rfl rfl (by decide) ⟨by decide, by decide⟩ dX4_isDone_242 ?_
        refine lv_iload F.1 F.2.1 dX4_isDone_243 (lv_at hl 1 rfl) ?_
        refine gc_SR (As := [.int (iI (ss 1)), .int (iI y4)]) F hK hA hP hS gPnil (c_X4_of l D cy (ss 1) y4 _ h) (cwS 2 F.2.2.2.2 (gG_S k862 k863 k67 k864) rfl rfl rfl hd_X4_of ⟨Nat.le_of_ble_eq_true rfl, Nat.le_of_ble_eq_true rfl⟩) dX4_isDone_245 rfl rfl hl.1 (Nat.le_of_ble_eq_true rfl) ⟨Nat.le_of_ble_eq_true rfl, Nat.le_of_ble_eq_true rfl⟩ (fun u11 H locs h hP hS => ?_)
        refine lv_iload F.1 F.2.1 dX4_isDone_248 (lv_at hl 1 rfl) ?_
        refine gv_iconst F dX4_isDone_250 ?_
        refine gv_icmp_ge (tgt := 264) F g8 ⟨by decide, by decide⟩ dX4_isDone_251 (by decide) (fun c12 => ?_) (fun c12 => ?_)
        · have h := h.1 c12
          refine gv_iconst F dX4_isDone_264 ?_
          obtain ⟨g13, h⟩ := h
          obtain ⟨z14, ez14⟩ : ∃ z : AR, z = su ss u11 0 := ⟨_, rfl⟩
          have h := h z14 ez14
          refine gv_iast (n := 147) (g := ss) (ws' := wMd cy ad o z14 mm im wa le ro re fa nu) F hK hP hD hS 1 rfl rfl (by decide) g13 (by subst ez14; exact rfl) dX4_isDone_265 (fun H locs hP hD hS => ?_)
          obtain ⟨v15, ev15⟩ : ∃ z : Int, z = y4 + 1 := ⟨_, rfl⟩
          have h := h v15 ev15
          refine gv_iinc (lv' := [(4, .int (iI v15)), (0, .ref (ad 0))]) F dX4_isDone_266 hl (k := 1) rfl ev15 (by decide) rfl (fun ls hl => ?_)
          refine lv_goto (tgt := 227) F.1 F.2.1 dX4_isDone_269 (by decide) ?_
          exact ih v15 z14 fa H locs ls h hP hD hS (lv_sub hl [1, 0] rfl)
        · have h := h.2 c12
          refine lv_aload_n F.1 F.2.1 dX4_isDone_254 rfl (lv_at hl 0 rfl) ?_
          refine gv_get F hin4 hK hP 0 rfl rfl 12 (by decide) k768 rfl dX4_isDone_255 ?_
          refine lv_iload F.1 F.2.1 dX4_isDone_258 (lv_at hl 1 rfl) ?_
          obtain ⟨g16, h⟩ := h
          refine gv_iald (n := 4) (g := nu) F hK hP 9 rfl rfl (by decide) g16 dX4_isDone_260 ?_
          refine lv_goto (tgt := 265) F.1 F.2.1 dX4_isDone_261 (by decide) ?_
          obtain ⟨g17, h⟩ := h
          obtain ⟨z18, ez18⟩ : ∃ z : AR, z = su ss u11 (nu y4) := ⟨_, rfl⟩
          have h := h z18 ez18
          refine gv_iast (n := 147) (g := ss) (ws' := wMd cy ad o z18 mm im wa le ro re fa nu) F hK hP hD hS 1 rfl rfl (by decide) g17 (by subst ez18; exact rfl) dX4_isDone_265 (fun H locs hP hD hS => ?_)
          obtain ⟨v19, ev19⟩ : ∃ z : Int, z = y4 + 1 := ⟨_, rfl⟩
          have h := h v19 ev19
          refine gv_iinc (lv' := [(4, .int (iI v19)), (0, .ref (ad 0))]) F dX4_isDone_266 hl (k := 1) rfl ev19 (by decide) rfl (fun ls hl => ?_)
          refine lv_goto (tgt := 227) F.1 F.2.1 dX4_isDone_269 (by decide) ?_
          exact ih v19 z18 fa H locs ls h hP hD hS (lv_sub hl [1, 0] rfl)
  have L159 : ∀ (n : Nat) (y4 : Int) (ss : AR) (fa : AR) (H : Heap) (locs : List Loc) (ls : Array Slot), wX4_isDone_159 nu Q n y4 ss fa → va_P D vwCl (wMd cy ad o ss mm im wa le ro re fa nu) H → va_D A (wMd cy ad o ss mm im wa le ro re fa nu) → va_S A s.heap H locs → lv_has ls 5 [(0, .ref (ad 0)), (4, .int (iI y4))] → W p l e rX4_isDone s m args below meth c H locs 0 0 Qg (F0 m 159 ls []) := by
    intro  n
    induction n with
    | zero => intro _ _ _ _ _ _ h; exact h.elim
    | succ n ih =>
      intro y4 ss fa H locs ls h hP hD hS hl
      rw [wX4_isDone_159_s] at h
      refine lv_iload F.1 F.2.1 dX4_isDone_159 (lv_at hl 1 rfl) ?_
      refine gv_iconst F dX4_isDone_161 ?_
      obtain ⟨g20, h⟩ := h
      refine gv_icmp_ge (tgt := 189) F g20 ⟨by decide, by decide⟩ dX4_isDone_162 (by decide) (fun c21 => ?_) (fun c21 => ?_)
      · have h := h.1 c21
        refine lv_aload_n F.1 F.2.1 dX4_isDone_189 rfl (lv_at hl 0 rfl) ?_
        refine gv_get F hin4 hK hP 0 rfl rfl 0 (by decide) k756 rfl dX4_isDone_190 ?_
        refine gv_iconst F dX4_isDone_193 ?_
        refine lv_dup2_11 F.1 F.2.1 dX4_isDone_194 rfl rfl ?_
        refine gv_iald (n := 147) (g := ss) F hK hP 1 rfl rfl (by decide) ⟨by decide, by decide⟩ dX4_isDone_195 ?_
        refine gv_iconst F dX4_isDone_196 ?_
        refine gv_iadd F dX4_isDone_197 ?_
        obtain ⟨z22, ez22⟩ : ∃ z : AR, z = su ss 0 ((ss 0) + 1) := ⟨_, rfl⟩
        have h := h z22 ez22
        refine gv_iast (n := 147) (g := ss) (ws' := wMd cy ad o z22 mm im wa le ro re fa nu) F hK hP hD hS 1 rfl rfl (by decide) ⟨by decide, by decide⟩ (by subst ez22; exact rfl) dX4_isDone_198 (fun H locs hP hD hS => ?_)
        refine gv_iconst F dX4_isDone_199 ?_
        exact ret 1 (z22, fa) H locs 200 ls ⟨Or.inr rfl, h⟩ rfl hP hD hS dX4_isDone_200
      · have h := h.2 c21
        refine lv_aload_n F.1 F.2.1 dX4_isDone_165 rfl (lv_at hl 0 rfl) ?_
        refine gv_get F hin4 hK hP 0 rfl rfl 0 (by decide) k756 rfl dX4_isDone_166 ?_
        refine lv_iload F.1 F.2.1 dX4_isDone_169 (lv_at hl 1 rfl) ?_
        refine lv_aload_n F.1 F.2.1 dX4_isDone_171 rfl (lv_at hl 0 rfl) ?_
        refine gv_get F hin4 hK hP 0 rfl rfl 0 (by decide) k756 rfl dX4_isDone_172 ?_
        refine gv_iconst F dX4_isDone_175 ?_
        refine gv_iald (n := 147) (g := ss) F hK hP 1 rfl rfl (by decide) ⟨by decide, by decide⟩ dX4_isDone_176 ?_
        refine gc_SR (As := [.int (iI y4), .int (iI (ss 0))]) F hK hA hP hS gPnil (c_X4_sheetOf l D cy y4 (ss 0) _ h) (cwS 2 F.2.2.2.2 (gG_S k859 k860 k67 k861) rfl rfl rfl hd_X4_sheetOf ⟨Nat.le_of_ble_eq_true rfl, Nat.le_of_ble_eq_true rfl⟩) dX4_isDone_177 rfl rfl hl.1 (Nat.le_of_ble_eq_true rfl) ⟨Nat.le_of_ble_eq_true rfl, Nat.le_of_ble_eq_true rfl⟩ (fun u23 H locs h hP hS => ?_)
        refine gv_bipush F ⟨by decide, by decide⟩ dX4_isDone_180 ?_
        obtain ⟨g24, h⟩ := h
        obtain ⟨z25, ez25⟩ : ∃ z : AR, z = su ss u23 (-9) := ⟨_, rfl⟩
        have h := h z25 ez25
        refine gv_iast (n := 147) (g := ss) (ws' := wMd cy ad o z25 mm im wa le ro re fa nu) F hK hP hD hS 1 rfl rfl (by decide) g24 (by subst ez25; exact rfl) dX4_isDone_182 (fun H locs hP hD hS => ?_)
        obtain ⟨v26, ev26⟩ : ∃ z : Int, z = y4 + 1 := ⟨_, rfl⟩
        have h := h v26 ev26
        refine gv_iinc (lv' := [(4, .int (iI v26)), (0, .ref (ad 0))]) F dX4_isDone_183 hl (k := 1) rfl ev26 (by decide) rfl (fun ls hl => ?_)
        refine lv_goto (tgt := 159) F.1 F.2.1 dX4_isDone_186 (by decide) ?_
        exact ih v26 z25 fa H locs ls h hP hD hS (lv_sub hl [1, 0] rfl)
  have L121 : ∀ (n : Nat) (y4 : Int) (ss : AR) (fa : AR) (H : Heap) (locs : List Loc) (ls : Array Slot), wX4_isDone_121 nu Q n y4 ss fa → va_P D vwCl (wMd cy ad o ss mm im wa le ro re fa nu) H → va_D A (wMd cy ad o ss mm im wa le ro re fa nu) → va_S A s.heap H locs → lv_has ls 5 [(0, .ref (ad 0)), (4, .int (iI y4))] → W p l e rX4_isDone s m args below meth c H locs 0 0 Qg (F0 m 121 ls []) := by
    intro  n
    induction n with
    | zero => intro _ _ _ _ _ _ h; exact h.elim
    | succ n ih =>
      intro y4 ss fa H locs ls h hP hD hS hl
      rw [wX4_isDone_121_s] at h
      refine lv_iload F.1 F.2.1 dX4_isDone_121 (lv_at hl 1 rfl) ?_
      refine gv_iconst F dX4_isDone_123 ?_
      obtain ⟨g27, h⟩ := h
      refine gv_icmp_ge (tgt := 156) F g27 ⟨by decide, by decide⟩ dX4_isDone_124 (by decide) (fun c28 => ?_) (fun c28 => ?_)
      · have h := h.1 c28
        refine gv_iconst F dX4_isDone_156 ?_
        refine lv_istore (lv' := [(4, .int (iI 0)), (0, .ref (ad 0))]) F.1 F.2.1 dX4_isDone_157 hl (by decide) rfl (fun ls hl => ?_)
        obtain ⟨n29, h⟩ := h
        exact L159 n29 0 ss fa H locs ls h hP hD hS (lv_sub hl [1, 0] rfl)
      · have h := h.2 c28
        refine lv_aload_n F.1 F.2.1 dX4_isDone_127 rfl (lv_at hl 0 rfl) ?_
        refine gv_get F hin4 hK hP 0 rfl rfl 0 (by decide) k756 rfl dX4_isDone_128 ?_
        refine lv_aload_n F.1 F.2.1 dX4_isDone_131 rfl (lv_at hl 0 rfl) ?_
        refine gv_get F hin4 hK hP 0 rfl rfl 0 (by decide) k756 rfl dX4_isDone_132 ?_
        refine gv_iconst F dX4_isDone_135 ?_
        refine gv_iald (n := 147) (g := ss) F hK hP 1 rfl rfl (by decide) ⟨by decide, by decide⟩ dX4_isDone_136 ?_
        refine lv_iload F.1 F.2.1 dX4_isDone_137 (lv_at hl 1 rfl) ?_
        refine gc_SR (As := [.int (iI (ss 0)), .int (iI y4)]) F hK hA hP hS gPnil (c_X4_ask l D cy (ss 0) y4 _ h) (cwS 2 F.2.2.2.2 (gG_S k856 k857 k67 k858) rfl rfl rfl hd_X4_ask ⟨Nat.le_of_ble_eq_true rfl, Nat.le_of_ble_eq_true rfl⟩) dX4_isDone_139 rfl rfl hl.1 (Nat.le_of_ble_eq_true rfl) ⟨Nat.le_of_ble_eq_true rfl, Nat.le_of_ble_eq_true rfl⟩ (fun u30 H locs h hP hS => ?_)
        refine lv_aload_n F.1 F.2.1 dX4_isDone_142 rfl (lv_at hl 0 rfl) ?_
        refine gv_get F hin4 hK hP 0 rfl rfl 12 (by decide) k768 rfl dX4_isDone_143 ?_
        refine lv_iload F.1 F.2.1 dX4_isDone_146 (lv_at hl 1 rfl) ?_
        obtain ⟨g31, h⟩ := h
        refine gv_iald (n := 4) (g := nu) F hK hP 9 rfl rfl (by decide) g31 dX4_isDone_148 ?_
        obtain ⟨g32, h⟩ := h
        obtain ⟨z33, ez33⟩ : ∃ z : AR, z = su ss u30 (nu y4) := ⟨_, rfl⟩
        have h := h z33 ez33
        refine gv_iast (n := 147) (g := ss) (ws' := wMd cy ad o z33 mm im wa le ro re fa nu) F hK hP hD hS 1 rfl rfl (by decide) g32 (by subst ez33; exact rfl) dX4_isDone_149 (fun H locs hP hD hS => ?_)
        obtain ⟨v34, ev34⟩ : ∃ z : Int, z = y4 + 1 := ⟨_, rfl⟩
        have h := h v34 ev34
        refine gv_iinc (lv' := [(4, .int (iI v34)), (0, .ref (ad 0))]) F dX4_isDone_150 hl (k := 1) rfl ev34 (by decide) rfl (fun ls hl => ?_)
        refine lv_goto (tgt := 121) F.1 F.2.1 dX4_isDone_153 (by decide) ?_
        exact ih v34 z33 fa H locs ls h hP hD hS (lv_sub hl [1, 0] rfl)
  refine lv_aload_n F.1 F.2.1 dX4_isDone_0 rfl (lv_at hl 0 rfl) ?_
  refine gv_get F hin4 hK hP 0 rfl rfl 12 (by decide) k768 rfl dX4_isDone_1 ?_
  refine gv_iconst F dX4_isDone_4 ?_
  refine gv_iald (n := 4) (g := nu) F hK hP 9 rfl rfl (by decide) ⟨by decide, by decide⟩ dX4_isDone_5 ?_
  refine gv_name (fun v35 ev35 => ?_)
  have h := h v35 ev35
  refine lv_istore_n (lv' := [(2, .int (iI v35)), (0, .ref (ad 0)), (1, .int (iI x1))]) F.1 F.2.1 dX4_isDone_6 rfl hl (by decide) rfl (fun ls hl => ?_)
  refine lv_aload_n F.1 F.2.1 dX4_isDone_7 rfl (lv_at hl 1 rfl) ?_
  refine gv_get F hin4 hK hP 0 rfl rfl 12 (by decide) k768 rfl dX4_isDone_8 ?_
  refine gv_iconst F dX4_isDone_11 ?_
  refine gv_iald (n := 4) (g := nu) F hK hP 9 rfl rfl (by decide) ⟨by decide, by decide⟩ dX4_isDone_12 ?_
  refine gv_name (fun v36 ev36 => ?_)
  have h := h v36 ev36
  refine lv_istore_n (lv' := [(3, .int (iI v36)), (2, .int (iI v35)), (0, .ref (ad 0)), (1, .int (iI x1))]) F.1 F.2.1 dX4_isDone_13 rfl hl (by decide) rfl (fun ls hl => ?_)
  refine lv_iload_n F.1 F.2.1 dX4_isDone_14 rfl (lv_at hl 3 rfl) ?_
  obtain ⟨g37, h⟩ := h
  by_cases c38 : x1 = 97
  · have h := h.1 c38
    refine gv_lookup (tgt := 318) (off := 303) F g37 dX4_isDone_15 (by decide) (by rw [c38]; rfl) (by decide) ?_
    refine lv_aload_n F.1 F.2.1 dX4_isDone_318 rfl (lv_at hl 2 rfl) ?_
    refine lv_iload_n F.1 F.2.1 dX4_isDone_319 rfl (lv_at hl 1 rfl) ?_
    refine gc_VR (As := [.int (iI v35)]) F hK hA hP hS hP (c_X4_isGroup l D cy ad o ss mm im wa le ro re fa nu v35 _ h) (cwV 1 F.2.2.2.2 (gG_V k865 k867 k41 k67 k868) rfl rfl rfl hd_X4_isGroup ⟨Nat.le_of_ble_eq_true rfl, Nat.le_of_ble_eq_true rfl⟩) rfl rfl dX4_isDone_320 rfl rfl hl.1 (Nat.le_of_ble_eq_true rfl) ⟨Nat.le_of_ble_eq_true rfl, Nat.le_of_ble_eq_true rfl⟩ (fun u39 H locs h hP hS => ?_)
    obtain ⟨bu39, h⟩ := h
    refine gv_if_eq (tgt := 333) F (gRb bu39) dX4_isDone_323 (by decide) (fun c40 => ?_) (fun c40 => ?_)
    · have h := h.1 c40
      refine gv_iconst F dX4_isDone_333 ?_
      exact ret 0 (ss, fa) H locs 334 ls ⟨Or.inl rfl, h⟩ rfl hP hD hS dX4_isDone_334
    · have h := h.2 c40
      refine lv_iload_n F.1 F.2.1 dX4_isDone_326 rfl (lv_at hl 0 rfl) ?_
      refine gc_SR (As := [.int (iI v36)]) F hK hA hP hS gPnil (c_X4_isRoom l D cy v36 _ h) (cwS 1 F.2.2.2.2 (gG_S k849 k850 k67 k851) rfl rfl rfl hd_X4_isRoom ⟨Nat.le_of_ble_eq_true rfl, Nat.le_of_ble_eq_true rfl⟩) dX4_isDone_327 rfl rfl hl.1 (Nat.le_of_ble_eq_true rfl) ⟨Nat.le_of_ble_eq_true rfl, Nat.le_of_ble_eq_true rfl⟩ (fun u41 H locs h hP hS => ?_)
      obtain ⟨bu41, h⟩ := h
      refine gv_if_ne (tgt := 335) F (gRb bu41) dX4_isDone_330 (by decide) (fun c42 => ?_) (fun c42 => ?_)
      · have h := h.1 c42
        refine lv_aload_n F.1 F.2.1 dX4_isDone_335 rfl (lv_at hl 2 rfl) ?_
        refine gv_get F hin4 hK hP 0 rfl rfl 0 (by decide) k756 rfl dX4_isDone_336 ?_
        refine lv_iload_n F.1 F.2.1 dX4_isDone_339 rfl (lv_at hl 1 rfl) ?_
        refine gv_iconst F dX4_isDone_340 ?_
        refine gc_SR (As := [.int (iI v35), .int (iI 3)]) F hK hA hP hS gPnil (c_X4_of l D cy v35 3 _ h) (cwS 2 F.2.2.2.2 (gG_S k862 k863 k67 k864) rfl rfl rfl hd_X4_of ⟨Nat.le_of_ble_eq_true rfl, Nat.le_of_ble_eq_true rfl⟩) dX4_isDone_341 rfl rfl hl.1 (Nat.le_of_ble_eq_true rfl) ⟨Nat.le_of_ble_eq_true rfl, Nat.le_of_ble_eq_true rfl⟩ (fun u43 H locs h hP hS => ?_)
        refine lv_iload_n F.1 F.2.1 dX4_isDone_344 rfl (lv_at hl 0 rfl) ?_
        obtain ⟨g44, h⟩ := h
        obtain ⟨z45, ez45⟩ : ∃ z : AR, z = su ss u43 v36 := ⟨_, rfl⟩
        have h := h z45 ez45
        refine gv_iast (n := 147) (g := ss) (ws' := wMd cy ad o z45 mm im wa le ro re fa nu) F hK hP hD hS 1 rfl rfl (by decide) g44 (by subst ez45; exact rfl) dX4_isDone_345 (fun H locs hP hD hS => ?_)
        refine lv_aload_n F.1 F.2.1 dX4_isDone_346 rfl (lv_at hl 2 rfl) ?_
        refine gv_get F hin4 hK hP 0 rfl rfl 0 (by decide) k756 rfl dX4_isDone_347 ?_
        refine lv_iload_n F.1 F.2.1 dX4_isDone_350 rfl (lv_at hl 1 rfl) ?_
        refine gv_iconst F dX4_isDone_351 ?_
        refine gc_SR (As := [.int (iI v35), .int (iI 4)]) F hK hA hP hS gPnil (c_X4_of l D cy v35 4 _ h) (cwS 2 F.2.2.2.2 (gG_S k862 k863 k67 k864) rfl rfl rfl hd_X4_of ⟨Nat.le_of_ble_eq_true rfl, Nat.le_of_ble_eq_true rfl⟩) dX4_isDone_352 rfl rfl hl.1 (Nat.le_of_ble_eq_true rfl) ⟨Nat.le_of_ble_eq_true rfl, Nat.le_of_ble_eq_true rfl⟩ (fun u46 H locs h hP hS => ?_)
        refine gv_iconst F dX4_isDone_355 ?_
        obtain ⟨g47, h⟩ := h
        obtain ⟨z48, ez48⟩ : ∃ z : AR, z = su z45 u46 0 := ⟨_, rfl⟩
        have h := h z48 ez48
        refine gv_iast (n := 147) (g := z45) (ws' := wMd cy ad o z48 mm im wa le ro re fa nu) F hK hP hD hS 1 rfl rfl (by decide) g47 (by subst ez48; exact rfl) dX4_isDone_356 (fun H locs hP hD hS => ?_)
        refine gv_iconst F dX4_isDone_357 ?_
        exact ret 1 (z48, fa) H locs 358 ls ⟨Or.inr rfl, h⟩ rfl hP hD hS dX4_isDone_358
      · have h := h.2 c42
        refine gv_iconst F dX4_isDone_333 ?_
        exact ret 0 (ss, fa) H locs 334 ls ⟨Or.inl rfl, h⟩ rfl hP hD hS dX4_isDone_334
  by_cases c49 : x1 = 100
  · have h := h.2.1 c49
    refine gv_lookup (tgt := 64) (off := 49) F g37 dX4_isDone_15 (by decide) (by rw [c49]; rfl) (by decide) ?_
    refine lv_iload_n F.1 F.2.1 dX4_isDone_64 rfl (lv_at hl 1 rfl) ?_
    refine gc_SR (As := [.int (iI v35)]) F hK hA hP hS gPnil (c_X4_isRoom l D cy v35 _ h) (cwS 1 F.2.2.2.2 (gG_S k849 k850 k67 k851) rfl rfl rfl hd_X4_isRoom ⟨Nat.le_of_ble_eq_true rfl, Nat.le_of_ble_eq_true rfl⟩) dX4_isDone_65 rfl rfl hl.1 (Nat.le_of_ble_eq_true rfl) ⟨Nat.le_of_ble_eq_true rfl, Nat.le_of_ble_eq_true rfl⟩ (fun u50 H locs h hP hS => ?_)
    obtain ⟨bu50, h⟩ := h
    refine gv_if_eq (tgt := 83) F (gRb bu50) dX4_isDone_68 (by decide) (fun c51 => ?_) (fun c51 => ?_)
    · have h := h.1 c51
      refine gv_iconst F dX4_isDone_83 ?_
      exact ret 0 (ss, fa) H locs 84 ls ⟨Or.inl rfl, h⟩ rfl hP hD hS dX4_isDone_84
    · have h := h.2 c51
      refine lv_iload_n F.1 F.2.1 dX4_isDone_71 rfl (lv_at hl 0 rfl) ?_
      refine gc_SR (As := [.int (iI v36)]) F hK hA hP hS gPnil (c_X4_isRoom l D cy v36 _ h) (cwS 1 F.2.2.2.2 (gG_S k849 k850 k67 k851) rfl rfl rfl hd_X4_isRoom ⟨Nat.le_of_ble_eq_true rfl, Nat.le_of_ble_eq_true rfl⟩) dX4_isDone_72 rfl rfl hl.1 (Nat.le_of_ble_eq_true rfl) ⟨Nat.le_of_ble_eq_true rfl, Nat.le_of_ble_eq_true rfl⟩ (fun u52 H locs h hP hS => ?_)
      obtain ⟨bu52, h⟩ := h
      refine gv_if_eq (tgt := 83) F (gRb bu52) dX4_isDone_75 (by decide) (fun c53 => ?_) (fun c53 => ?_)
      · have h := h.1 c53
        refine gv_iconst F dX4_isDone_83 ?_
        exact ret 0 (ss, fa) H locs 84 ls ⟨Or.inl rfl, h⟩ rfl hP hD hS dX4_isDone_84
      · have h := h.2 c53
        refine lv_iload_n F.1 F.2.1 dX4_isDone_78 rfl (lv_at hl 1 rfl) ?_
        refine lv_iload_n F.1 F.2.1 dX4_isDone_79 rfl (lv_at hl 0 rfl) ?_
        obtain ⟨g54, h⟩ := h
        obtain ⟨g55, h⟩ := h
        refine gv_icmp_ne (tgt := 85) F g54 g55 dX4_isDone_80 (by decide) (fun c56 => ?_) (fun c56 => ?_)
        · have h := h.1 c56
          refine lv_aload_n F.1 F.2.1 dX4_isDone_85 rfl (lv_at hl 2 rfl) ?_
          refine lv_iload_n F.1 F.2.1 dX4_isDone_86 rfl (lv_at hl 1 rfl) ?_
          refine lv_iload_n F.1 F.2.1 dX4_isDone_87 rfl (lv_at hl 0 rfl) ?_
          refine gc_VV (As := [.int (iI v35), .int (iI v36)]) (wn := fun u : AR => wMd cy ad o u mm im wa le ro re fa nu) F hK hA hP hD hS hP hD (fun u H1 _ h1 h2 => ⟨h1, h2⟩) (c_X4_turnsDoor l D cy ad o ss mm im wa le ro re fa nu v35 v36 _ h) (cwV 2 F.2.2.2.2 (gG_V k852 k854 k40 k67 k855) rfl rfl rfl hd_X4_turnsDoor ⟨Nat.le_of_ble_eq_true rfl, Nat.le_of_ble_eq_true rfl⟩) rfl rfl dX4_isDone_88 rfl rfl hl.1 (Nat.le_of_ble_eq_true rfl) ⟨Nat.le_of_ble_eq_true rfl, Nat.le_of_ble_eq_true rfl⟩ (fun z57 H locs h hP hD hS => ?_)
          try dsimp only at h hP hD
          refine gv_iconst F dX4_isDone_91 ?_
          exact ret 1 (z57, fa) H locs 92 ls ⟨Or.inr rfl, h⟩ rfl hP hD hS dX4_isDone_92
        · have h := h.2 c56
          refine gv_iconst F dX4_isDone_83 ?_
          exact ret 0 (ss, fa) H locs 84 ls ⟨Or.inl rfl, h⟩ rfl hP hD hS dX4_isDone_84
  by_cases c58 : x1 = 103
  · have h := h.2.2.1 c58
    refine gv_lookup (tgt := 201) (off := 186) F g37 dX4_isDone_15 (by decide) (by rw [c58]; rfl) (by decide) ?_
    refine lv_aload_n F.1 F.2.1 dX4_isDone_201 rfl (lv_at hl 2 rfl) ?_
    refine gv_get F hin4 hK hP 0 rfl rfl 12 (by decide) k768 rfl dX4_isDone_202 ?_
    refine gv_iconst F dX4_isDone_205 ?_
    refine gv_iald (n := 4) (g := nu) F hK hP 9 rfl rfl (by decide) ⟨by decide, by decide⟩ dX4_isDone_206 ?_
    refine gv_bipush F ⟨by decide, by decide⟩ dX4_isDone_207 ?_
    obtain ⟨g59, h⟩ := h
    refine gv_icmp_gt (tgt := 222) F g59 ⟨by decide, by decide⟩ dX4_isDone_209 (by decide) (fun c60 => ?_) (fun c60 => ?_)
    · have h := h.1 c60
      refine gv_iconst F dX4_isDone_222 ?_
      exact ret 0 (ss, fa) H locs 223 ls ⟨Or.inl rfl, h⟩ rfl hP hD hS dX4_isDone_223
    · have h := h.2 c60
      refine lv_aload_n F.1 F.2.1 dX4_isDone_212 rfl (lv_at hl 2 rfl) ?_
      refine gv_get F hin4 hK hP 0 rfl rfl 0 (by decide) k756 rfl dX4_isDone_213 ?_
      refine gv_iconst F dX4_isDone_216 ?_
      refine gv_iald (n := 147) (g := ss) F hK hP 1 rfl rfl (by decide) ⟨by decide, by decide⟩ dX4_isDone_217 ?_
      refine gv_iconst F dX4_isDone_218 ?_
      obtain ⟨g61, h⟩ := h
      refine gv_icmp_ne (tgt := 224) F g61 ⟨by decide, by decide⟩ dX4_isDone_219 (by decide) (fun c62 => ?_) (fun c62 => ?_)
      · have h := h.1 c62
        refine gv_iconst F dX4_isDone_224 ?_
        refine lv_istore (lv' := [(4, .int (iI 0)), (3, .int (iI v36)), (2, .int (iI v35)), (0, .ref (ad 0)), (1, .int (iI x1))]) F.1 F.2.1 dX4_isDone_225 hl (by decide) rfl (fun ls hl => ?_)
        obtain ⟨n63, h⟩ := h
        exact L227 n63 0 ss fa H locs ls h hP hD hS (lv_sub hl [3, 0] rfl)
      · have h := h.2 c62
        refine gv_iconst F dX4_isDone_222 ?_
        exact ret 0 (ss, fa) H locs 223 ls ⟨Or.inl rfl, h⟩ rfl hP hD hS dX4_isDone_223
  by_cases c64 : x1 = 113
  · have h := h.2.2.2.1 c64
    refine gv_lookup (tgt := 93) (off := 78) F g37 dX4_isDone_15 (by decide) (by rw [c64]; rfl) (by decide) ?_
    refine lv_aload_n F.1 F.2.1 dX4_isDone_93 rfl (lv_at hl 2 rfl) ?_
    refine gv_get F hin4 hK hP 0 rfl rfl 12 (by decide) k768 rfl dX4_isDone_94 ?_
    refine gv_iconst F dX4_isDone_97 ?_
    refine gv_iald (n := 4) (g := nu) F hK hP 9 rfl rfl (by decide) ⟨by decide, by decide⟩ dX4_isDone_98 ?_
    refine gc_SR (As := [.int (iI (nu 2))]) F hK hA hP hS gPnil (c_X4_isRoom l D cy (nu 2) _ h) (cwS 1 F.2.2.2.2 (gG_S k849 k850 k67 k851) rfl rfl rfl hd_X4_isRoom ⟨Nat.le_of_ble_eq_true rfl, Nat.le_of_ble_eq_true rfl⟩) dX4_isDone_99 rfl rfl hl.1 (Nat.le_of_ble_eq_true rfl) ⟨Nat.le_of_ble_eq_true rfl, Nat.le_of_ble_eq_true rfl⟩ (fun u65 H locs h hP hS => ?_)
    obtain ⟨bu65, h⟩ := h
    refine gv_if_eq (tgt := 116) F (gRb bu65) dX4_isDone_102 (by decide) (fun c66 => ?_) (fun c66 => ?_)
    · have h := h.1 c66
      refine gv_iconst F dX4_isDone_116 ?_
      exact ret 0 (ss, fa) H locs 117 ls ⟨Or.inl rfl, h⟩ rfl hP hD hS dX4_isDone_117
    · have h := h.2 c66
      refine lv_aload_n F.1 F.2.1 dX4_isDone_105 rfl (lv_at hl 2 rfl) ?_
      refine gv_get F hin4 hK hP 0 rfl rfl 0 (by decide) k756 rfl dX4_isDone_106 ?_
      refine gv_iconst F dX4_isDone_109 ?_
      refine gv_iald (n := 147) (g := ss) F hK hP 1 rfl rfl (by decide) ⟨by decide, by decide⟩ dX4_isDone_110 ?_
      refine gv_bipush F ⟨by decide, by decide⟩ dX4_isDone_111 ?_
      obtain ⟨g67, h⟩ := h
      refine gv_icmp_ne (tgt := 118) F g67 ⟨by decide, by decide⟩ dX4_isDone_113 (by decide) (fun c68 => ?_) (fun c68 => ?_)
      · have h := h.1 c68
        refine gv_iconst F dX4_isDone_118 ?_
        refine lv_istore (lv' := [(4, .int (iI 0)), (3, .int (iI v36)), (2, .int (iI v35)), (0, .ref (ad 0)), (1, .int (iI x1))]) F.1 F.2.1 dX4_isDone_119 hl (by decide) rfl (fun ls hl => ?_)
        obtain ⟨n69, h⟩ := h
        exact L121 n69 0 ss fa H locs ls h hP hD hS (lv_sub hl [3, 0] rfl)
      · have h := h.2 c68
        refine gv_iconst F dX4_isDone_116 ?_
        exact ret 0 (ss, fa) H locs 117 ls ⟨Or.inl rfl, h⟩ rfl hP hD hS dX4_isDone_117
  by_cases c70 : x1 = 119
  · have h := h.2.2.2.2.1 c70
    refine gv_lookup (tgt := 359) (off := 344) F g37 dX4_isDone_15 (by decide) (by rw [c70]; rfl) (by decide) ?_
    refine lv_aload_n F.1 F.2.1 dX4_isDone_359 rfl (lv_at hl 2 rfl) ?_
    refine lv_iload_n F.1 F.2.1 dX4_isDone_360 rfl (lv_at hl 1 rfl) ?_
    refine gc_VR (As := [.int (iI v35)]) F hK hA hP hS hP (c_X4_isGroup l D cy ad o ss mm im wa le ro re fa nu v35 _ h) (cwV 1 F.2.2.2.2 (gG_V k865 k867 k41 k67 k868) rfl rfl rfl hd_X4_isGroup ⟨Nat.le_of_ble_eq_true rfl, Nat.le_of_ble_eq_true rfl⟩) rfl rfl dX4_isDone_361 rfl rfl hl.1 (Nat.le_of_ble_eq_true rfl) ⟨Nat.le_of_ble_eq_true rfl, Nat.le_of_ble_eq_true rfl⟩ (fun u71 H locs h hP hS => ?_)
    obtain ⟨bu71, h⟩ := h
    refine gv_if_eq (tgt := 375) F (gRb bu71) dX4_isDone_364 (by decide) (fun c72 => ?_) (fun c72 => ?_)
    · have h := h.1 c72
      refine gv_iconst F dX4_isDone_375 ?_
      exact ret 0 (ss, fa) H locs 376 ls ⟨Or.inl rfl, h⟩ rfl hP hD hS dX4_isDone_376
    · have h := h.2 c72
      refine lv_aload_n F.1 F.2.1 dX4_isDone_367 rfl (lv_at hl 2 rfl) ?_
      refine lv_iload_n F.1 F.2.1 dX4_isDone_368 rfl (lv_at hl 0 rfl) ?_
      refine gc_VR (As := [.int (iI v36)]) F hK hA hP hS hP (c_X4_isQuestion l D cy ad o ss mm im wa le ro re fa nu v36 _ h) (cwV 1 F.2.2.2.2 (gG_V k869 k871 k42 k67 k872) rfl rfl rfl hd_X4_isQuestion ⟨Nat.le_of_ble_eq_true rfl, Nat.le_of_ble_eq_true rfl⟩) rfl rfl dX4_isDone_369 rfl rfl hl.1 (Nat.le_of_ble_eq_true rfl) ⟨Nat.le_of_ble_eq_true rfl, Nat.le_of_ble_eq_true rfl⟩ (fun u73 H locs h hP hS => ?_)
      obtain ⟨bu73, h⟩ := h
      refine gv_if_ne (tgt := 377) F (gRb bu73) dX4_isDone_372 (by decide) (fun c74 => ?_) (fun c74 => ?_)
      · have h := h.1 c74
        refine lv_aload_n F.1 F.2.1 dX4_isDone_377 rfl (lv_at hl 2 rfl) ?_
        refine gv_get F hin4 hK hP 0 rfl rfl 0 (by decide) k756 rfl dX4_isDone_378 ?_
        refine lv_iload_n F.1 F.2.1 dX4_isDone_381 rfl (lv_at hl 1 rfl) ?_
        refine lv_iload_n F.1 F.2.1 dX4_isDone_382 rfl (lv_at hl 0 rfl) ?_
        refine gc_SR (As := [.int (iI v35), .int (iI v36)]) F hK hA hP hS gPnil (c_X4_sheetOf l D cy v35 v36 _ h) (cwS 2 F.2.2.2.2 (gG_S k859 k860 k67 k861) rfl rfl rfl hd_X4_sheetOf ⟨Nat.le_of_ble_eq_true rfl, Nat.le_of_ble_eq_true rfl⟩) dX4_isDone_383 rfl rfl hl.1 (Nat.le_of_ble_eq_true rfl) ⟨Nat.le_of_ble_eq_true rfl, Nat.le_of_ble_eq_true rfl⟩ (fun u75 H locs h hP hS => ?_)
        refine lv_aload_n F.1 F.2.1 dX4_isDone_386 rfl (lv_at hl 2 rfl) ?_
        refine gv_get F hin4 hK hP 0 rfl rfl 12 (by decide) k768 rfl dX4_isDone_387 ?_
        refine gv_iconst F dX4_isDone_390 ?_
        refine gv_iald (n := 4) (g := nu) F hK hP 9 rfl rfl (by decide) ⟨by decide, by decide⟩ dX4_isDone_391 ?_
        obtain ⟨g76, h⟩ := h
        obtain ⟨z77, ez77⟩ : ∃ z : AR, z = su ss u75 (nu 2) := ⟨_, rfl⟩
        have h := h z77 ez77
        refine gv_iast (n := 147) (g := ss) (ws' := wMd cy ad o z77 mm im wa le ro re fa nu) F hK hP hD hS 1 rfl rfl (by decide) g76 (by subst ez77; exact rfl) dX4_isDone_392 (fun H locs hP hD hS => ?_)
        refine gv_iconst F dX4_isDone_393 ?_
        exact ret 1 (z77, fa) H locs 394 ls ⟨Or.inr rfl, h⟩ rfl hP hD hS dX4_isDone_394
      · have h := h.2 c74
        refine gv_iconst F dX4_isDone_375 ?_
        exact ret 0 (ss, fa) H locs 376 ls ⟨Or.inl rfl, h⟩ rfl hP hD hS dX4_isDone_376
  have cd : ¬ x1 = 97 ∧ ¬ x1 = 100 ∧ ¬ x1 = 103 ∧ ¬ x1 = 113 ∧ ¬ x1 = 119 := ⟨c38, c49, c58, c64, c70⟩
  have h := h.2.2.2.2.2 cd
  refine gv_lookup (tgt := 395) (off := 380) F g37 dX4_isDone_15 (by decide) (by rw [Op.lookupswitch.offset_cons, if_neg (fun q => c38 q.symm)]; rw [Op.lookupswitch.offset_cons, if_neg (fun q => c49 q.symm)]; rw [Op.lookupswitch.offset_cons, if_neg (fun q => c58 q.symm)]; rw [Op.lookupswitch.offset_cons, if_neg (fun q => c64 q.symm)]; rw [Op.lookupswitch.offset_cons, if_neg (fun q => c70 q.symm)]; rfl) (by decide) ?_
  refine gv_bipush F ⟨by decide, by decide⟩ dX4_isDone_395 ?_
  refine lv_iload_n F.1 F.2.1 dX4_isDone_397 rfl (lv_at hl 1 rfl) ?_
  refine gv_imul F dX4_isDone_398 ?_
  refine lv_iload_n F.1 F.2.1 dX4_isDone_399 rfl (lv_at hl 0 rfl) ?_
  refine gv_iadd F dX4_isDone_400 ?_
  refine gv_name (fun v78 ev78 => ?_)
  have h := h v78 ev78
  refine lv_istore (lv' := [(4, .int (iI v78)), (3, .int (iI v36)), (2, .int (iI v35)), (0, .ref (ad 0)), (1, .int (iI x1))]) F.1 F.2.1 dX4_isDone_401 hl (by decide) rfl (fun ls hl => ?_)
  refine lv_iload F.1 F.2.1 dX4_isDone_403 (lv_at hl 0 rfl) ?_
  refine gv_iconst F dX4_isDone_405 ?_
  refine gv_bipush F ⟨by decide, by decide⟩ dX4_isDone_406 ?_
  refine gc_SR (As := [.int (iI v78), .int (iI 1), .int (iI 60)]) F hK hA hP hS gPnil (c_X4_isIn l D cy v78 1 60 _ h) (cwS 3 F.2.2.2.2 (gG_S k832 k833 k67 k834) rfl rfl rfl hd_X4_isIn ⟨Nat.le_of_ble_eq_true rfl, Nat.le_of_ble_eq_true rfl⟩) dX4_isDone_408 rfl rfl hl.1 (Nat.le_of_ble_eq_true rfl) ⟨Nat.le_of_ble_eq_true rfl, Nat.le_of_ble_eq_true rfl⟩ (fun u79 H locs h hP hS => ?_)
  obtain ⟨bu79, h⟩ := h
  refine gv_if_eq (tgt := 429) F (gRb bu79) dX4_isDone_411 (by decide) (fun c80 => ?_) (fun c80 => ?_)
  · have h := h.1 c80
    refine gv_iconst F dX4_isDone_429 ?_
    exact ret 0 (ss, fa) H locs 430 ls ⟨Or.inl rfl, h⟩ rfl hP hD hS dX4_isDone_430
  · have h := h.2 c80
    refine lv_aload_n F.1 F.2.1 dX4_isDone_414 rfl (lv_at hl 3 rfl) ?_
    refine gv_get F hin4 hK hP 0 rfl rfl 0 (by decide) k756 rfl dX4_isDone_415 ?_
    refine gv_iconst F dX4_isDone_418 ?_
    refine gv_iald (n := 147) (g := ss) F hK hP 1 rfl rfl (by decide) ⟨by decide, by decide⟩ dX4_isDone_419 ?_
    refine lv_iload F.1 F.2.1 dX4_isDone_420 (lv_at hl 0 rfl) ?_
    refine gv_iadd F dX4_isDone_422 ?_
    refine gv_sipush F ⟨by decide, by decide⟩ dX4_isDone_423 ?_
    obtain ⟨g81, h⟩ := h
    refine gv_icmp_le (tgt := 431) F g81 ⟨by decide, by decide⟩ dX4_isDone_426 (by decide) (fun c82 => ?_) (fun c82 => ?_)
    · have h := h.1 c82
      refine lv_aload_n F.1 F.2.1 dX4_isDone_431 rfl (lv_at hl 3 rfl) ?_
      refine lv_aload_n F.1 F.2.1 dX4_isDone_432 rfl (lv_at hl 3 rfl) ?_
      refine gv_get F hin4 hK hP 0 rfl rfl 0 (by decide) k756 rfl dX4_isDone_433 ?_
      refine lv_iload F.1 F.2.1 dX4_isDone_436 (lv_at hl 0 rfl) ?_
      refine gc_VV (As := [.ref (ad 1), .int (iI v78)]) (wn := fun u : AR × AR => wMd cy ad o u.2 mm im wa le ro re u.1 nu) F hK hA hP hD hS (cp_md_fs hP) (cd_md_fs hD) (fun u H1 hk h1 _ => cj_md_fs hP hD u.1 u.2 H1 hk h1) (c_X4_minutesOn l D cy ad (ad 1) o fa ss v78 _ h) (cwV 2 F.2.2.2.2 (gG_V k873 k875 k43 k67 k876) rfl rfl rfl hd_X4_minutesOn ⟨Nat.le_of_ble_eq_true rfl, Nat.le_of_ble_eq_true rfl⟩) rfl rfl dX4_isDone_438 rfl rfl hl.1 (Nat.le_of_ble_eq_true rfl) ⟨Nat.le_of_ble_eq_true rfl, Nat.le_of_ble_eq_true rfl⟩ (fun u H locs h hP hD hS => ?_)
      obtain ⟨z83, z84⟩ := u
      try dsimp only at h hP hD
      refine gv_iconst F dX4_isDone_441 ?_
      exact ret 1 (z84, z83) H locs 442 ls ⟨Or.inr rfl, h⟩ rfl hP hD hS dX4_isDone_442
    · have h := h.2 c82
      refine gv_iconst F dX4_isDone_429 ?_
      exact ret 0 (ss, fa) H locs 430 ls ⟨Or.inl rfl, h⟩ rfl hP hD hS dX4_isDone_430
abbrev rX4_museum : Room := { frames := 7, cells := 0, slots := 0, locals := 165 }
set_option maxHeartbeats 4000000 in
set_option maxRecDepth 20000 in
theorem c_X4_museum (l : Launch) (D : va_G) (cy : ClassId) (ad : Nat → Nat) (o : AR) (ss : AR) (mm : AR) (im : AR) (wa : AR) (le : AR) (ro : AR) (re : AR) (fa : AR) (nu : AR) (Q : Int → AR → AR → AR → AR → AR → Prop) (h : wX4_museum o ss wa le fa nu Q) : MetI l yX4_museum (wT yX4_museum cX4_museum 6 (some .int)) rX4_museum D cy [.ref (ad 0)] (wMd cy ad o ss mm im wa le ro re fa nu) (fun u : AR × AR × AR × AR × AR => wMd cy ad u.1 u.2.1 mm im u.2.2.1 le ro re u.2.2.2.1 u.2.2.2.2) (fun r u => Q r u.1 u.2.1 u.2.2.1 u.2.2.2.1 u.2.2.2.2) := by
  refine gI_I (by decide) (Nat.le_of_ble_eq_true rfl) ?_
  intro p e s m args below meth c A Qg F hK hA ret H locs ls hl hP hD hS
  have F : CallFix p m c cX4_museum 6 s args gT RX4 := F
  have hl : lv_has ls 6 [(0, .ref (ad 0))] := hl
  have L128 : ∀ (y1 : Int) (y2 : Int) (o : AR) (ss : AR) (wa : AR) (fa : AR) (nu : AR) (H : Heap) (locs : List Loc) (ls : Array Slot), wX4_museum_128 le Q y1 y2 o ss wa fa nu → va_P D vwCl (wMd cy ad o ss mm im wa le ro re fa nu) H → va_D A (wMd cy ad o ss mm im wa le ro re fa nu) → va_S A s.heap H locs → lv_has ls 6 [(0, .ref (ad 0)), (1, .int (iI y1)), (2, .int (iI y2))] → W p l e rX4_museum s m args below meth c H locs 0 0 Qg (F0 m 128 ls []) := by
    intro y1 y2 o ss wa fa nu H locs ls h hP hD hS hl
    refine lv_aload_n F.1 F.2.1 dX4_museum_128 rfl (lv_at hl 0 rfl) ?_
    refine gv_iconst F dX4_museum_129 ?_
    obtain ⟨z1, ez1⟩ : ∃ z : AR, z = su o 8 0 := ⟨_, rfl⟩
    have h := h z1 ez1
    refine gv_put (ws' := wMd cy ad z1 ss mm im wa le ro re fa nu) F hin4 tyX4 tyX4_ok nmX4 hK hP hD hS 0 rfl rfl 8 (by decide) k764 rfl (ty := .int) (by decide +kernel) rfl rfl (Nat.le_of_ble_eq_true rfl) (by subst ez1; exact wMd_o8 rfl) dX4_museum_130 (fun H locs hP hD hS => ?_)
    refine lv_iload_n F.1 F.2.1 dX4_museum_133 rfl (lv_at hl 2 rfl) ?_
    refine gv_bipush F ⟨by decide, by decide⟩ dX4_museum_134 ?_
    obtain ⟨g2, h⟩ := h
    refine gv_icmp_ne (tgt := 143) F g2 ⟨by decide, by decide⟩ dX4_museum_136 (by decide) (fun c3 => ?_) (fun c3 => ?_)
    · have h := h.1 c3
      refine lv_iload_n F.1 F.2.1 dX4_museum_143 rfl (lv_at hl 2 rfl) ?_
      exact ret y2 (z1, ss, wa, fa, nu) H locs 144 ls h rfl hP hD hS dX4_museum_144
    · have h := h.2 c3
      refine lv_iload_n F.1 F.2.1 dX4_museum_139 rfl (lv_at hl 1 rfl) ?_
      refine lv_goto (tgt := 144) F.1 F.2.1 dX4_museum_140 (by decide) ?_
      exact ret y1 (z1, ss, wa, fa, nu) H locs 144 ls h rfl hP hD hS dX4_museum_144
  have L62 : ∀ (n : Nat) (y1 : Int) (y2 : Int) (o : AR) (ss : AR) (wa : AR) (fa : AR) (nu : AR) (H : Heap) (locs : List Loc) (ls : Array Slot), wX4_museum_62 le Q n y1 y2 o ss wa fa nu → va_P D vwCl (wMd cy ad o ss mm im wa le ro re fa nu) H → va_D A (wMd cy ad o ss mm im wa le ro re fa nu) → va_S A s.heap H locs → lv_has ls 6 [(0, .ref (ad 0)), (1, .int (iI y1)), (2, .int (iI y2))] → W p l e rX4_museum s m args below meth c H locs 0 0 Qg (F0 m 62 ls []) := by
    intro  n
    induction n with
    | zero => intro _ _ _ _ _ _ _ _ _ _ h; exact h.elim
    | succ n ih =>
      intro y1 y2 o ss wa fa nu H locs ls h hP hD hS hl
      rw [wX4_museum_62_s] at h
      refine lv_iload_n F.1 F.2.1 dX4_museum_62 rfl (lv_at hl 2 rfl) ?_
      refine gv_bipush F ⟨by decide, by decide⟩ dX4_museum_63 ?_
      obtain ⟨g4, h⟩ := h
      refine gv_icmp_ne (tgt := 128) F g4 ⟨by decide, by decide⟩ dX4_museum_65 (by decide) (fun c5 => ?_) (fun c5 => ?_)
      · have h := h.1 c5
        exact L128 y1 y2 o ss wa fa nu H locs ls h hP hD hS (lv_sub hl [0, 1, 2] rfl)
      · have h := h.2 c5
        refine lv_aload_n F.1 F.2.1 dX4_museum_68 rfl (lv_at hl 0 rfl) ?_
        refine gv_get F hin4 hK hP 0 rfl rfl 11 (by decide) k767 rfl dX4_museum_69 ?_
        refine lv_aload_n F.1 F.2.1 dX4_museum_72 rfl (lv_at hl 0 rfl) ?_
        refine gv_get F hin4 hK hP 0 rfl rfl 8 (by decide) k764 rfl dX4_museum_73 ?_
        obtain ⟨g6, h⟩ := h
        obtain ⟨g7, h⟩ := h
        refine gv_icmp_ge (tgt := 128) F g6 g7 dX4_museum_76 (by decide) (fun c8 => ?_) (fun c8 => ?_)
        · have h := h.1 c8
          exact L128 y1 y2 o ss wa fa nu H locs ls h hP hD hS (lv_sub hl [0, 1, 2] rfl)
        · have h := h.2 c8
          refine lv_aload_n F.1 F.2.1 dX4_museum_79 rfl (lv_at hl 0 rfl) ?_
          refine gv_get F hin4 hK hP 0 rfl rfl 11 (by decide) k767 rfl dX4_museum_80 ?_
          refine gv_name (fun v9 ev9 => ?_)
          have h := h v9 ev9
          refine lv_istore_n (lv' := [(3, .int (iI v9)), (0, .ref (ad 0)), (1, .int (iI y1)), (2, .int (iI y2))]) F.1 F.2.1 dX4_museum_83 rfl hl (by decide) rfl (fun ls hl => ?_)
          refine lv_aload_n F.1 F.2.1 dX4_museum_84 rfl (lv_at hl 1 rfl) ?_
          refine gc_VR (As := []) F hK hA hP hS hP (c_X4_here l D cy ad o ss mm im wa le ro re fa nu _ h) (cwV 0 F.2.2.2.2 (gG_V k824 k826 k36 k67 k827) rfl rfl rfl hd_X4_here ⟨Nat.le_of_ble_eq_true rfl, Nat.le_of_ble_eq_true rfl⟩) rfl rfl dX4_museum_85 rfl rfl hl.1 (Nat.le_of_ble_eq_true rfl) ⟨Nat.le_of_ble_eq_true rfl, Nat.le_of_ble_eq_true rfl⟩ (fun u10 H locs h hP hS => ?_)
          refine lv_istore (lv' := [(4, .int (iI u10)), (3, .int (iI v9)), (0, .ref (ad 0)), (1, .int (iI y1)), (2, .int (iI y2))]) F.1 F.2.1 dX4_museum_88 hl (by decide) rfl (fun ls hl => ?_)
          refine lv_aload_n F.1 F.2.1 dX4_museum_90 rfl (lv_at hl 2 rfl) ?_
          refine gc_VI (As := []) (wn := fun u : AR × AR => wMd cy ad u.1 ss mm im wa le ro re fa u.2) F hK hA hP hD hS hP hD (fun u H1 _ h1 h2 => ⟨h1, h2⟩) (c_X4_readsStatement l D cy ad o ss mm im wa le ro re fa nu _ h) (cwV 0 F.2.2.2.2 (gG_V k820 k822 k35 k67 k823) rfl rfl rfl hd_X4_readsStatement ⟨Nat.le_of_ble_eq_true rfl, Nat.le_of_ble_eq_true rfl⟩) rfl rfl dX4_museum_91 rfl rfl hl.1 (Nat.le_of_ble_eq_true rfl) ⟨Nat.le_of_ble_eq_true rfl, Nat.le_of_ble_eq_true rfl⟩ (fun u13 u H locs h hP hD hS => ?_)
          obtain ⟨z11, z12⟩ := u
          try dsimp only at h hP hD
          obtain ⟨bu13, h⟩ := h
          refine lv_istore (lv' := [(5, .int (iI u13)), (4, .int (iI u10)), (3, .int (iI v9)), (0, .ref (ad 0)), (1, .int (iI y1)), (2, .int (iI y2))]) F.1 F.2.1 dX4_museum_94 hl (by decide) rfl (fun ls hl => ?_)
          refine lv_aload_n F.1 F.2.1 dX4_museum_96 rfl (lv_at hl 3 rfl) ?_
          refine lv_iload F.1 F.2.1 dX4_museum_97 (lv_at hl 1 rfl) ?_
          refine gc_VI (As := [.int (iI u10)]) (wn := fun u : AR × AR => wMd cy ad z11 u.1 mm im wa le ro re u.2 z12) F hK hA hP hD hS hP hD (fun u H1 _ h1 h2 => ⟨h1, h2⟩) (c_X4_isDone l D cy ad z11 ss mm im wa le ro re fa z12 u10 _ h) (cwV 1 F.2.2.2.2 (gG_V k845 k847 k39 k67 k848) rfl rfl rfl hd_X4_isDone ⟨Nat.le_of_ble_eq_true rfl, Nat.le_of_ble_eq_true rfl⟩) rfl rfl dX4_museum_99 rfl rfl hl.1 (Nat.le_of_ble_eq_true rfl) ⟨Nat.le_of_ble_eq_true rfl, Nat.le_of_ble_eq_true rfl⟩ (fun u16 u H locs h hP hD hS => ?_)
          obtain ⟨z14, z15⟩ := u
          try dsimp only at h hP hD
          obtain ⟨bu16, h⟩ := h
          refine gv_if_eq (tgt := 108) F (gRb bu16) dX4_museum_102 (by decide) (fun c17 => ?_) (fun c17 => ?_)
          · have h := h.1 c17
            refine gv_sipush F ⟨by decide, by decide⟩ dX4_museum_108 ?_
            refine lv_iload_n F.1 F.2.1 dX4_museum_111 rfl (lv_at hl 2 rfl) ?_
            refine gv_isub F dX4_museum_112 ?_
            refine gv_name (fun v18 ev18 => ?_)
            have h := h v18 ev18
            refine lv_istore_n (lv' := [(2, .int (iI v18)), (5, .int (iI u13)), (4, .int (iI u10)), (3, .int (iI v9)), (0, .ref (ad 0)), (1, .int (iI y1))]) F.1 F.2.1 dX4_museum_113 rfl hl (by decide) rfl (fun ls hl => ?_)
            refine lv_aload_n F.1 F.2.1 dX4_museum_114 rfl (lv_at hl 4 rfl) ?_
            refine gv_get F hin4 hK hP 0 rfl rfl 3 (by decide) k759 rfl dX4_museum_115 ?_
            refine lv_aload_n F.1 F.2.1 dX4_museum_118 rfl (lv_at hl 4 rfl) ?_
            refine gv_get F hin4 hK hP 0 rfl rfl 0 (by decide) k756 rfl dX4_museum_119 ?_
            refine gc_SV (As := [.ref (ad 4), .ref (ad 1)]) (wn := fun u : AR => wMd cy ad z11 u mm im wa le ro re z15 z12) F hK hA hP hD hS (cp_md_wa_s hP) (cd_md_wa_s hD) (fun u H1 hk h1 _ => cj_md_wa_s hP hD u H1 hk h1) (c_X4_lays l D cy (ad 4) (ad 1) wa z14 _ h) (cwS 2 F.2.2.2.2 (gG_S k842 k843 k67 k844) rfl rfl rfl hd_X4_lays ⟨Nat.le_of_ble_eq_true rfl, Nat.le_of_ble_eq_true rfl⟩) dX4_museum_122 rfl rfl hl.1 (Nat.le_of_ble_eq_true rfl) ⟨Nat.le_of_ble_eq_true rfl, Nat.le_of_ble_eq_true rfl⟩ (fun z19 H locs h hP hD hS => ?_)
            try dsimp only at h hP hD
            refine lv_goto (tgt := 62) F.1 F.2.1 dX4_museum_125 (by decide) ?_
            exact ih y1 v18 z11 z19 wa z15 z12 H locs ls h hP hD hS (lv_sub hl [4, 5, 0] rfl)
          · have h := h.2 c17
            refine lv_goto (tgt := 62) F.1 F.2.1 dX4_museum_105 (by decide) ?_
            exact ih y1 y2 z11 z14 wa z15 z12 H locs ls h hP hD hS (lv_sub hl [3, 4, 5] rfl)
  have L26 : ∀ (K10 : Int → Int → AR → AR → AR → AR → AR → Prop) (hK10 : ∀ (y1 : Int) (y2 : Int) (o : AR) (ss : AR) (wa : AR) (fa : AR) (nu : AR) (H : Heap) (locs : List Loc) (ls : Array Slot), K10 y1 y2 o ss wa fa nu → va_P D vwCl (wMd cy ad o ss mm im wa le ro re fa nu) H → va_D A (wMd cy ad o ss mm im wa le ro re fa nu) → va_S A s.heap H locs → lv_has ls 6 [(0, .ref (ad 0)), (1, .int (iI y1)), (2, .int (iI y2))] → W p l e rX4_museum s m args below meth c H locs 0 0 Qg (F0 m 10 ls [])) (y1 : Int) (y2 : Int) (o : AR) (ss : AR) (wa : AR) (fa : AR) (nu : AR) (H : Heap) (locs : List Loc) (ls : Array Slot), wX4_museum_26 le K10 Q y1 y2 o ss wa fa nu → va_P D vwCl (wMd cy ad o ss mm im wa le ro re fa nu) H → va_D A (wMd cy ad o ss mm im wa le ro re fa nu) → va_S A s.heap H locs → lv_has ls 6 [(0, .ref (ad 0)), (1, .int (iI y1)), (2, .int (iI y2))] → W p l e rX4_museum s m args below meth c H locs 0 0 Qg (F0 m 26 ls []) := by
    intro K10 hK10
    intro y1 y2 o ss wa fa nu H locs ls h hP hD hS hl
    obtain ⟨v20, ev20⟩ : ∃ z : Int, z = y1 + 1 := ⟨_, rfl⟩
    have h := h v20 ev20
    refine gv_iinc (lv' := [(1, .int (iI v20)), (0, .ref (ad 0)), (2, .int (iI y2))]) F dX4_museum_26 hl (k := 1) rfl ev20 (by decide) rfl (fun ls hl => ?_)
    refine lv_iload_n F.1 F.2.1 dX4_museum_29 rfl (lv_at hl 2 rfl) ?_
    refine gv_bipush F ⟨by decide, by decide⟩ dX4_museum_30 ?_
    obtain ⟨g21, h⟩ := h
    refine gv_icmp_ne (tgt := 46) F g21 ⟨by decide, by decide⟩ dX4_museum_32 (by decide) (fun c22 => ?_) (fun c22 => ?_)
    · have h := h.1 c22
      refine lv_aload_n F.1 F.2.1 dX4_museum_46 rfl (lv_at hl 1 rfl) ?_
      refine gv_get F hin4 hK hP 0 rfl rfl 0 (by decide) k756 rfl dX4_museum_47 ?_
      refine lv_aload_n F.1 F.2.1 dX4_museum_50 rfl (lv_at hl 1 rfl) ?_
      refine gv_get F hin4 hK hP 0 rfl rfl 3 (by decide) k759 rfl dX4_museum_51 ?_
      refine gc_SV (As := [.ref (ad 1), .ref (ad 4)]) (wn := fun u : AR => wMd cy ad o ss mm im u le ro re fa nu) F hK hA hP hD hS (cp_md_s_wa hP) (cd_md_s_wa hD) (fun u H1 hk h1 _ => cj_md_s_wa hP hD u H1 hk h1) (c_X4_lays l D cy (ad 1) (ad 4) ss wa _ h) (cwS 2 F.2.2.2.2 (gG_S k842 k843 k67 k844) rfl rfl rfl hd_X4_lays ⟨Nat.le_of_ble_eq_true rfl, Nat.le_of_ble_eq_true rfl⟩) dX4_museum_54 rfl rfl hl.1 (Nat.le_of_ble_eq_true rfl) ⟨Nat.le_of_ble_eq_true rfl, Nat.le_of_ble_eq_true rfl⟩ (fun z23 H locs h hP hD hS => ?_)
      try dsimp only at h hP hD
      refine lv_aload_n F.1 F.2.1 dX4_museum_57 rfl (lv_at hl 1 rfl) ?_
      refine gv_iconst F dX4_museum_58 ?_
      obtain ⟨z24, ez24⟩ : ∃ z : AR, z = su o 11 0 := ⟨_, rfl⟩
      have h := h z24 ez24
      refine gv_put (ws' := wMd cy ad z24 ss mm im z23 le ro re fa nu) F hin4 tyX4 tyX4_ok nmX4 hK hP hD hS 0 rfl rfl 11 (by decide) k767 rfl (ty := .int) (by decide +kernel) rfl rfl (Nat.le_of_ble_eq_true rfl) (by subst ez24; exact wMd_o11 rfl) dX4_museum_59 (fun H locs hP hD hS => ?_)
      obtain ⟨n25, h⟩ := h
      exact L62 n25 v20 y2 z24 ss z23 fa nu H locs ls h hP hD hS (lv_sub hl [1, 0, 2] rfl)
    · have h := h.2 c22
      refine lv_aload_n F.1 F.2.1 dX4_museum_35 rfl (lv_at hl 1 rfl) ?_
      refine gv_get F hin4 hK hP 0 rfl rfl 11 (by decide) k767 rfl dX4_museum_36 ?_
      refine lv_aload_n F.1 F.2.1 dX4_museum_39 rfl (lv_at hl 1 rfl) ?_
      refine gv_get F hin4 hK hP 0 rfl rfl 8 (by decide) k764 rfl dX4_museum_40 ?_
      obtain ⟨g26, h⟩ := h
      obtain ⟨g27, h⟩ := h
      refine gv_icmp_lt (tgt := 10) F g26 g27 dX4_museum_43 (by decide) (fun c28 => ?_) (fun c28 => ?_)
      · have h := h.1 c28
        exact hK10 v20 y2 o ss wa fa nu H locs ls h hP hD hS (lv_sub hl [1, 0, 2] rfl)
      · have h := h.2 c28
        refine lv_aload_n F.1 F.2.1 dX4_museum_46 rfl (lv_at hl 1 rfl) ?_
        refine gv_get F hin4 hK hP 0 rfl rfl 0 (by decide) k756 rfl dX4_museum_47 ?_
        refine lv_aload_n F.1 F.2.1 dX4_museum_50 rfl (lv_at hl 1 rfl) ?_
        refine gv_get F hin4 hK hP 0 rfl rfl 3 (by decide) k759 rfl dX4_museum_51 ?_
        refine gc_SV (As := [.ref (ad 1), .ref (ad 4)]) (wn := fun u : AR => wMd cy ad o ss mm im u le ro re fa nu) F hK hA hP hD hS (cp_md_s_wa hP) (cd_md_s_wa hD) (fun u H1 hk h1 _ => cj_md_s_wa hP hD u H1 hk h1) (c_X4_lays l D cy (ad 1) (ad 4) ss wa _ h) (cwS 2 F.2.2.2.2 (gG_S k842 k843 k67 k844) rfl rfl rfl hd_X4_lays ⟨Nat.le_of_ble_eq_true rfl, Nat.le_of_ble_eq_true rfl⟩) dX4_museum_54 rfl rfl hl.1 (Nat.le_of_ble_eq_true rfl) ⟨Nat.le_of_ble_eq_true rfl, Nat.le_of_ble_eq_true rfl⟩ (fun z29 H locs h hP hD hS => ?_)
        try dsimp only at h hP hD
        refine lv_aload_n F.1 F.2.1 dX4_museum_57 rfl (lv_at hl 1 rfl) ?_
        refine gv_iconst F dX4_museum_58 ?_
        obtain ⟨z30, ez30⟩ : ∃ z : AR, z = su o 11 0 := ⟨_, rfl⟩
        have h := h z30 ez30
        refine gv_put (ws' := wMd cy ad z30 ss mm im z29 le ro re fa nu) F hin4 tyX4 tyX4_ok nmX4 hK hP hD hS 0 rfl rfl 11 (by decide) k767 rfl (ty := .int) (by decide +kernel) rfl rfl (Nat.le_of_ble_eq_true rfl) (by subst ez30; exact wMd_o11 rfl) dX4_museum_59 (fun H locs hP hD hS => ?_)
        obtain ⟨n31, h⟩ := h
        exact L62 n31 v20 y2 z30 ss z29 fa nu H locs ls h hP hD hS (lv_sub hl [1, 0, 2] rfl)
  have L10 : ∀ (n : Nat) (y1 : Int) (y2 : Int) (o : AR) (ss : AR) (wa : AR) (fa : AR) (nu : AR) (H : Heap) (locs : List Loc) (ls : Array Slot), wX4_museum_10 le Q n y1 y2 o ss wa fa nu → va_P D vwCl (wMd cy ad o ss mm im wa le ro re fa nu) H → va_D A (wMd cy ad o ss mm im wa le ro re fa nu) → va_S A s.heap H locs → lv_has ls 6 [(0, .ref (ad 0)), (1, .int (iI y1)), (2, .int (iI y2))] → W p l e rX4_museum s m args below meth c H locs 0 0 Qg (F0 m 10 ls []) := by
    intro  n
    induction n with
    | zero => intro _ _ _ _ _ _ _ _ _ _ h; exact h.elim
    | succ n ih =>
      intro y1 y2 o ss wa fa nu H locs ls h hP hD hS hl
      rw [wX4_museum_10_s] at h
      refine lv_aload_n F.1 F.2.1 dX4_museum_10 rfl (lv_at hl 0 rfl) ?_
      refine gc_VI (As := []) (wn := fun u : AR × AR => wMd cy ad u.1 ss mm im wa le ro re fa u.2) F hK hA hP hD hS hP hD (fun u H1 _ h1 h2 => ⟨h1, h2⟩) (c_X4_readsStatement l D cy ad o ss mm im wa le ro re fa nu _ h) (cwV 0 F.2.2.2.2 (gG_V k820 k822 k35 k67 k823) rfl rfl rfl hd_X4_readsStatement ⟨Nat.le_of_ble_eq_true rfl, Nat.le_of_ble_eq_true rfl⟩) rfl rfl dX4_museum_11 rfl rfl hl.1 (Nat.le_of_ble_eq_true rfl) ⟨Nat.le_of_ble_eq_true rfl, Nat.le_of_ble_eq_true rfl⟩ (fun u34 u H locs h hP hD hS => ?_)
      obtain ⟨z32, z33⟩ := u
      try dsimp only at h hP hD
      obtain ⟨bu34, h⟩ := h
      refine gv_if_ne (tgt := 26) F (gRb bu34) dX4_museum_14 (by decide) (fun c35 => ?_) (fun c35 => ?_)
      · have h := h.1 c35
        exact L26 _ ih y1 y2 z32 ss wa fa z33 H locs ls h hP hD hS (lv_sub hl [0, 1, 2] rfl)
      · have h := h.2 c35
        refine gv_sipush F ⟨by decide, by decide⟩ dX4_museum_17 ?_
        refine lv_aload_n F.1 F.2.1 dX4_museum_20 rfl (lv_at hl 0 rfl) ?_
        refine gv_get F hin4 hK hP 0 rfl rfl 11 (by decide) k767 rfl dX4_museum_21 ?_
        refine gv_isub F dX4_museum_24 ?_
        refine gv_name (fun v36 ev36 => ?_)
        have h := h v36 ev36
        refine lv_istore_n (lv' := [(2, .int (iI v36)), (0, .ref (ad 0)), (1, .int (iI y1))]) F.1 F.2.1 dX4_museum_25 rfl hl (by decide) rfl (fun ls hl => ?_)
        exact L26 _ ih y1 v36 z32 ss wa fa z33 H locs ls h hP hD hS (lv_sub hl [1, 2, 0] rfl)
  refine lv_aload_n F.1 F.2.1 dX4_museum_0 rfl (lv_at hl 0 rfl) ?_
  refine gv_iconst F dX4_museum_1 ?_
  obtain ⟨z37, ez37⟩ : ∃ z : AR, z = su o 11 0 := ⟨_, rfl⟩
  have h := h z37 ez37
  refine gv_put (ws' := wMd cy ad z37 ss mm im wa le ro re fa nu) F hin4 tyX4 tyX4_ok nmX4 hK hP hD hS 0 rfl rfl 11 (by decide) k767 rfl (ty := .int) (by decide +kernel) rfl rfl (Nat.le_of_ble_eq_true rfl) (by subst ez37; exact wMd_o11 rfl) dX4_museum_2 (fun H locs hP hD hS => ?_)
  refine gv_iconst F dX4_museum_5 ?_
  refine lv_istore_n (lv' := [(1, .int (iI 0)), (0, .ref (ad 0))]) F.1 F.2.1 dX4_museum_6 rfl hl (by decide) rfl (fun ls hl => ?_)
  refine gv_bipush F ⟨by decide, by decide⟩ dX4_museum_7 ?_
  refine lv_istore_n (lv' := [(2, .int (iI (-9))), (1, .int (iI 0)), (0, .ref (ad 0))]) F.1 F.2.1 dX4_museum_9 rfl hl (by decide) rfl (fun ls hl => ?_)
  obtain ⟨n38, h⟩ := h
  exact L10 n38 0 (-9) z37 ss wa fa nu H locs ls h hP hD hS (lv_sub hl [2, 1, 0] rfl)
