abbrev rX0_length : Room := { frames := 0, cells := 0, slots := 0, locals := 0 }
set_option maxHeartbeats 4000000 in
set_option maxRecDepth 20000 in
theorem c_X0_length (l : Launch) (D : va_G) (cy : ClassId) (ad : Nat → Nat) (lg : AR) (sg : AR) (Q : Int → Prop) (h : wX0_length lg Q) : MetR l yX0_length (wT yX0_length cX0_length 1 (some .int)) rX0_length D cy [.ref (ad 0)] (wLe cy ad lg sg) Q := by
  refine gI_R (by decide) (Nat.le_of_ble_eq_true rfl) ?_
  intro p e s m args below meth c A Qg F hK hA ret H locs ls hl hP hS
  have F : CallFix p m c cX0_length 1 s args gT RX0 := F
  have hl : lv_has ls 1 [(0, .ref (ad 0))] := hl
  refine lv_aload_n F.1 F.2.1 dX0_length_0 rfl (lv_at hl 0 rfl) ?_
  refine gv_get F hin0 hK hP 0 rfl rfl 1 (by decide) k182 rfl dX0_length_1 ?_
  exact ret (lg 1) H locs 4 ls h rfl hS dX0_length_4
abbrev rX0_isFull : Room := { frames := 0, cells := 0, slots := 0, locals := 0 }
set_option maxHeartbeats 4000000 in
set_option maxRecDepth 20000 in
theorem c_X0_isFull (l : Launch) (D : va_G) (cy : ClassId) (ad : Nat → Nat) (lg : AR) (sg : AR) (Q : Int → Prop) (h : wX0_isFull lg Q) : MetR l yX0_isFull (wT yX0_isFull cX0_isFull 1 (some .boolean)) rX0_isFull D cy [.ref (ad 0)] (wLe cy ad lg sg) (fun u => (u = 0 ∨ u = 1) ∧ Q u) := by
  refine gI_R (by decide) (Nat.le_of_ble_eq_true rfl) ?_
  intro p e s m args below meth c A Qg F hK hA ret H locs ls hl hP hS
  have F : CallFix p m c cX0_isFull 1 s args gT RX0 := F
  have hl : lv_has ls 1 [(0, .ref (ad 0))] := hl
  refine lv_aload_n F.1 F.2.1 dX0_isFull_0 rfl (lv_at hl 0 rfl) ?_
  refine gv_get F hin0 hK hP 0 rfl rfl 1 (by decide) k182 rfl dX0_isFull_1 ?_
  refine gv_bipush F ⟨by decide, by decide⟩ dX0_isFull_4 ?_
  obtain ⟨g1, h⟩ := h
  refine gv_icmp_lt (tgt := 13) F g1 ⟨by decide, by decide⟩ dX0_isFull_6 (by decide) (fun c2 => ?_) (fun c2 => ?_)
  · have h := h.1 c2
    refine gv_iconst F dX0_isFull_13 ?_
    exact ret 0 H locs 14 ls ⟨Or.inl rfl, h⟩ rfl hS dX0_isFull_14
  · have h := h.2 c2
    refine gv_iconst F dX0_isFull_9 ?_
    refine lv_goto (tgt := 14) F.1 F.2.1 dX0_isFull_10 (by decide) ?_
    exact ret 1 H locs 14 ls ⟨Or.inr rfl, h⟩ rfl hS dX0_isFull_14
abbrev rX0_append : Room := { frames := 0, cells := 0, slots := 0, locals := 0 }
set_option maxHeartbeats 4000000 in
set_option maxRecDepth 20000 in
theorem c_X0_append (l : Launch) (D : va_G) (cy : ClassId) (ad : Nat → Nat) (lg : AR) (sg : AR) (x1 : Int) (Q : Int → AR → AR → Prop) (h : wX0_append lg sg x1 Q) : MetI l yX0_append (wT yX0_append cX0_append 2 (some .int)) rX0_append D cy [.ref (ad 0), .int (iI x1)] (wLe cy ad lg sg) (fun u : AR × AR => wLe cy ad u.1 u.2) (fun r u => Q r u.1 u.2) := by
  refine gI_I (by decide) (Nat.le_of_ble_eq_true rfl) ?_
  intro p e s m args below meth c A Qg F hK hA ret H locs ls hl hP hD hS
  have F : CallFix p m c cX0_append 2 s args gT RX0 := F
  have hl : lv_has ls 2 [(0, .ref (ad 0)), (1, .int (iI x1))] := hl
  refine lv_aload_n F.1 F.2.1 dX0_append_0 rfl (lv_at hl 0 rfl) ?_
  refine gv_get F hin0 hK hP 0 rfl rfl 1 (by decide) k182 rfl dX0_append_1 ?_
  refine gv_bipush F ⟨by decide, by decide⟩ dX0_append_4 ?_
  obtain ⟨g1, h⟩ := h
  refine gv_icmp_ge (tgt := 29) F g1 ⟨by decide, by decide⟩ dX0_append_6 (by decide) (fun c2 => ?_) (fun c2 => ?_)
  · have h := h.1 c2
    refine lv_aload_n F.1 F.2.1 dX0_append_29 rfl (lv_at hl 0 rfl) ?_
    refine gv_get F hin0 hK hP 0 rfl rfl 1 (by decide) k182 rfl dX0_append_30 ?_
    exact ret (lg 1) (lg, sg) H locs 33 ls h rfl hP hD hS dX0_append_33
  · have h := h.2 c2
    refine lv_aload_n F.1 F.2.1 dX0_append_9 rfl (lv_at hl 0 rfl) ?_
    refine gv_get F hin0 hK hP 0 rfl rfl 0 (by decide) k181 rfl dX0_append_10 ?_
    refine lv_aload_n F.1 F.2.1 dX0_append_13 rfl (lv_at hl 0 rfl) ?_
    refine gv_get F hin0 hK hP 0 rfl rfl 1 (by decide) k182 rfl dX0_append_14 ?_
    refine lv_iload_n F.1 F.2.1 dX0_append_17 rfl (lv_at hl 1 rfl) ?_
    obtain ⟨g3, h⟩ := h
    obtain ⟨z4, ez4⟩ : ∃ z : AR, z = su sg (lg 1) x1 := ⟨_, rfl⟩
    have h := h z4 ez4
    refine gv_iast (n := 96) (g := sg) (ws' := wLe cy ad lg z4) F hK hP hD hS 1 rfl rfl (by decide) g3 (by subst ez4; exact rfl) dX0_append_18 (fun H locs hP hD hS => ?_)
    refine lv_aload_n F.1 F.2.1 dX0_append_19 rfl (lv_at hl 0 rfl) ?_
    refine lv_dup F.1 F.2.1 dX0_append_20 rfl ?_
    refine gv_get F hin0 hK hP 0 rfl rfl 1 (by decide) k182 rfl dX0_append_21 ?_
    refine gv_iconst F dX0_append_24 ?_
    refine gv_iadd F dX0_append_25 ?_
    obtain ⟨z5, ez5⟩ : ∃ z : AR, z = su lg 1 ((lg 1) + 1) := ⟨_, rfl⟩
    have h := h z5 ez5
    refine gv_put (ws' := wLe cy ad z5 z4) F hin0 tyX0 tyX0_ok nmX0 hK hP hD hS 0 rfl rfl 1 (by decide) k182 rfl (ty := .int) (by decide +kernel) rfl rfl (Nat.le_of_ble_eq_true rfl) (by subst ez5; exact wLe_o1 rfl) dX0_append_26 (fun H locs hP hD hS => ?_)
    refine lv_aload_n F.1 F.2.1 dX0_append_29 rfl (lv_at hl 0 rfl) ?_
    refine gv_get F hin0 hK hP 0 rfl rfl 1 (by decide) k182 rfl dX0_append_30 ?_
    exact ret (z5 1) (z5, z4) H locs 33 ls h rfl hP hD hS dX0_append_33
abbrev rX0_forget : Room := { frames := 0, cells := 0, slots := 0, locals := 0 }
set_option maxHeartbeats 4000000 in
set_option maxRecDepth 20000 in
theorem c_X0_forget (l : Launch) (D : va_G) (cy : ClassId) (ad : Nat → Nat) (lg : AR) (sg : AR) (Q : AR → Prop) (h : wX0_forget lg Q) : MetV l yX0_forget (wT yX0_forget cX0_forget 1 none) rX0_forget D cy [.ref (ad 0)] (wLe cy ad lg sg) (fun u : AR => wLe cy ad u sg) (fun u => Q u) := by
  refine gI_V (by decide) (Nat.le_of_ble_eq_true rfl) ?_
  intro p e s m args below meth c A Qg F hK hA ret H locs ls hl hP hD hS
  have F : CallFix p m c cX0_forget 1 s args gT RX0 := F
  have hl : lv_has ls 1 [(0, .ref (ad 0))] := hl
  refine lv_aload_n F.1 F.2.1 dX0_forget_0 rfl (lv_at hl 0 rfl) ?_
  refine gv_iconst F dX0_forget_1 ?_
  obtain ⟨z1, ez1⟩ : ∃ z : AR, z = su lg 1 0 := ⟨_, rfl⟩
  have h := h z1 ez1
  refine gv_put (ws' := wLe cy ad z1 sg) F hin0 tyX0 tyX0_ok nmX0 hK hP hD hS 0 rfl rfl 1 (by decide) k182 rfl (ty := .int) (by decide +kernel) rfl rfl (Nat.le_of_ble_eq_true rfl) (by subst ez1; exact wLe_o1 rfl) dX0_forget_2 (fun H locs hP hD hS => ?_)
  exact ret z1 H locs 5 ls h hP hD hS dX0_forget_5
abbrev rX0_at : Room := { frames := 0, cells := 0, slots := 0, locals := 0 }
set_option maxHeartbeats 4000000 in
set_option maxRecDepth 20000 in
theorem c_X0_at (l : Launch) (D : va_G) (cy : ClassId) (ad : Nat → Nat) (lg : AR) (sg : AR) (x1 : Int) (Q : Int → Prop) (h : wX0_at lg sg x1 Q) : MetR l yX0_at (wT yX0_at cX0_at 2 (some .int)) rX0_at D cy [.ref (ad 0), .int (iI x1)] (wLe cy ad lg sg) Q := by
  refine gI_R (by decide) (Nat.le_of_ble_eq_true rfl) ?_
  intro p e s m args below meth c A Qg F hK hA ret H locs ls hl hP hS
  have F : CallFix p m c cX0_at 2 s args gT RX0 := F
  have hl : lv_has ls 2 [(0, .ref (ad 0)), (1, .int (iI x1))] := hl
  refine lv_iload_n F.1 F.2.1 dX0_at_0 rfl (lv_at hl 1 rfl) ?_
  obtain ⟨g1, h⟩ := h
  refine gv_if_lt (tgt := 21) F g1 dX0_at_1 (by decide) (fun c2 => ?_) (fun c2 => ?_)
  · have h := h.1 c2
    refine gv_iconst F dX0_at_21 ?_
    exact ret 0 H locs 22 ls h rfl hS dX0_at_22
  · have h := h.2 c2
    refine lv_iload_n F.1 F.2.1 dX0_at_4 rfl (lv_at hl 1 rfl) ?_
    refine lv_aload_n F.1 F.2.1 dX0_at_5 rfl (lv_at hl 0 rfl) ?_
    refine gv_get F hin0 hK hP 0 rfl rfl 1 (by decide) k182 rfl dX0_at_6 ?_
    obtain ⟨g3, h⟩ := h
    refine gv_icmp_ge (tgt := 21) F g1 g3 dX0_at_9 (by decide) (fun c4 => ?_) (fun c4 => ?_)
    · have h := h.1 c4
      refine gv_iconst F dX0_at_21 ?_
      exact ret 0 H locs 22 ls h rfl hS dX0_at_22
    · have h := h.2 c4
      refine lv_aload_n F.1 F.2.1 dX0_at_12 rfl (lv_at hl 0 rfl) ?_
      refine gv_get F hin0 hK hP 0 rfl rfl 0 (by decide) k181 rfl dX0_at_13 ?_
      refine lv_iload_n F.1 F.2.1 dX0_at_16 rfl (lv_at hl 1 rfl) ?_
      obtain ⟨g5, h⟩ := h
      refine gv_iald (n := 96) (g := sg) F hK hP 1 rfl rfl (by decide) g5 dX0_at_17 ?_
      refine lv_goto (tgt := 22) F.1 F.2.1 dX0_at_18 (by decide) ?_
      exact ret (sg x1) H locs 22 ls h rfl hS dX0_at_22
abbrev rX0_digit : Room := { frames := 1, cells := 0, slots := 0, locals := 21 }
set_option maxHeartbeats 4000000 in
set_option maxRecDepth 20000 in
theorem c_X0_digit (l : Launch) (D : va_G) (cy : ClassId) (ad : Nat → Nat) (lg : AR) (sg : AR) (x1 : Int) (Q : Int → Prop) (h : wX0_digit lg sg x1 Q) : MetR l yX0_digit (wT yX0_digit cX0_digit 2 (some .int)) rX0_digit D cy [.ref (ad 0), .int (iI x1)] (wLe cy ad lg sg) Q := by
  refine gI_R (by decide) (Nat.le_of_ble_eq_true rfl) ?_
  intro p e s m args below meth c A Qg F hK hA ret H locs ls hl hP hS
  have F : CallFix p m c cX0_digit 2 s args gT RX0 := F
  have hl : lv_has ls 2 [(0, .ref (ad 0)), (1, .int (iI x1))] := hl
  refine lv_aload_n F.1 F.2.1 dX0_digit_0 rfl (lv_at hl 0 rfl) ?_
  refine lv_iload_n F.1 F.2.1 dX0_digit_1 rfl (lv_at hl 1 rfl) ?_
  refine gc_VR (As := [.int (iI x1)]) F hK hA hP hS hP (c_X0_at l D cy ad lg sg x1 _ h) (cwV 1 F.2.2.2.2 (gG_V k244 k245 k246 k66 k247) rfl rfl rfl hd_X0_at ⟨Nat.le_of_ble_eq_true rfl, Nat.le_of_ble_eq_true rfl⟩) rfl rfl dX0_digit_2 rfl rfl hl.1 (Nat.le_of_ble_eq_true rfl) ⟨Nat.le_of_ble_eq_true rfl, Nat.le_of_ble_eq_true rfl⟩ (fun u1 H locs h hP hS => ?_)
  refine gv_bipush F ⟨by decide, by decide⟩ dX0_digit_5 ?_
  refine gv_isub F dX0_digit_7 ?_
  exact ret (u1 - 48) H locs 8 ls h rfl hS dX0_digit_8
abbrev rX0_signsBehind : Room := { frames := 0, cells := 0, slots := 0, locals := 0 }
set_option maxHeartbeats 4000000 in
set_option maxRecDepth 20000 in
theorem c_X0_signsBehind (l : Launch) (D : va_G) (cy : ClassId)   (x0 : Int) (Q : Int → Prop) (h : wX0_signsBehind x0 Q) : MetR l yX0_signsBehind (wT yX0_signsBehind cX0_signsBehind 1 (some .int)) rX0_signsBehind D cy [.int (iI x0)] ([]) Q := by
  refine gI_R (by decide) (Nat.le_of_ble_eq_true rfl) ?_
  intro p e s m args below meth c A Qg F hK hA ret H locs ls hl hP hS
  have F : CallFix p m c cX0_signsBehind 1 s args gT RX0 := F
  have hl : lv_has ls 1 [(0, .int (iI x0))] := hl
  refine lv_iload_n F.1 F.2.1 dX0_signsBehind_0 rfl (lv_at hl 0 rfl) ?_
  obtain ⟨g1, h⟩ := h
  by_cases c2 : x0 = 97
  · have h := h.1 c2
    refine gv_lookup (tgt := 60) (off := 59) F g1 dX0_signsBehind_1 (by decide) (by rw [c2]; rfl) (by decide) ?_
    refine gv_iconst F dX0_signsBehind_60 ?_
    exact ret 2 H locs 61 ls h rfl hS dX0_signsBehind_61
  by_cases c3 : x0 = 100
  · have h := h.2.1 c3
    refine gv_lookup (tgt := 60) (off := 59) F g1 dX0_signsBehind_1 (by decide) (by rw [c3]; rfl) (by decide) ?_
    refine gv_iconst F dX0_signsBehind_60 ?_
    exact ret 2 H locs 61 ls h rfl hS dX0_signsBehind_61
  by_cases c4 : x0 = 103
  · have h := h.2.2.1 c4
    refine gv_lookup (tgt := 62) (off := 61) F g1 dX0_signsBehind_1 (by decide) (by rw [c4]; rfl) (by decide) ?_
    refine gv_iconst F dX0_signsBehind_62 ?_
    exact ret 3 H locs 63 ls h rfl hS dX0_signsBehind_63
  by_cases c5 : x0 = 109
  · have h := h.2.2.2.1 c5
    refine gv_lookup (tgt := 60) (off := 59) F g1 dX0_signsBehind_1 (by decide) (by rw [c5]; rfl) (by decide) ?_
    refine gv_iconst F dX0_signsBehind_60 ?_
    exact ret 2 H locs 61 ls h rfl hS dX0_signsBehind_61
  by_cases c6 : x0 = 113
  · have h := h.2.2.2.2.1 c6
    refine gv_lookup (tgt := 64) (off := 63) F g1 dX0_signsBehind_1 (by decide) (by rw [c6]; rfl) (by decide) ?_
    refine gv_iconst F dX0_signsBehind_64 ?_
    exact ret 4 H locs 65 ls h rfl hS dX0_signsBehind_65
  by_cases c7 : x0 = 119
  · have h := h.2.2.2.2.2.1 c7
    refine gv_lookup (tgt := 62) (off := 61) F g1 dX0_signsBehind_1 (by decide) (by rw [c7]; rfl) (by decide) ?_
    refine gv_iconst F dX0_signsBehind_62 ?_
    exact ret 3 H locs 63 ls h rfl hS dX0_signsBehind_63
  have cd : ¬ x0 = 97 ∧ ¬ x0 = 100 ∧ ¬ x0 = 103 ∧ ¬ x0 = 109 ∧ ¬ x0 = 113 ∧ ¬ x0 = 119 := ⟨c2, c3, c4, c5, c6, c7⟩
  have h := h.2.2.2.2.2.2 cd
  refine gv_lookup (tgt := 66) (off := 65) F g1 dX0_signsBehind_1 (by decide) (by rw [Op.lookupswitch.offset_cons, if_neg (fun q => c2 q.symm)]; rw [Op.lookupswitch.offset_cons, if_neg (fun q => c3 q.symm)]; rw [Op.lookupswitch.offset_cons, if_neg (fun q => c4 q.symm)]; rw [Op.lookupswitch.offset_cons, if_neg (fun q => c5 q.symm)]; rw [Op.lookupswitch.offset_cons, if_neg (fun q => c6 q.symm)]; rw [Op.lookupswitch.offset_cons, if_neg (fun q => c7 q.symm)]; rfl) (by decide) ?_
  refine gv_iconst F dX0_signsBehind_66 ?_
  exact ret 0 H locs 67 ls h rfl hS dX0_signsBehind_67
