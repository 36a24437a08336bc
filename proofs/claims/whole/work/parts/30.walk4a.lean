abbrev rX4_isIn : Room := { frames := 0, cells := 0, slots := 0, locals := 0 }
set_option maxHeartbeats 4000000 in
set_option maxRecDepth 20000 in
theorem c_X4_isIn (l : Launch) (D : va_G) (cy : ClassId)   (x0 x1 x2 : Int) (Q : Int → Prop) (h : wX4_isIn x0 x1 x2 Q) : MetR l yX4_isIn (wT yX4_isIn cX4_isIn 3 (some .boolean)) rX4_isIn D cy [.int (iI x0), .int (iI x1), .int (iI x2)] ([]) (fun u => (u = 0 ∨ u = 1) ∧ Q u) := by
  refine gI_R (by decide) (Nat.le_of_ble_eq_true rfl) ?_
  intro p e s m args below meth c A Qg F hK hA ret H locs ls hl hP hS
  have F : CallFix p m c cX4_isIn 3 s args gT RX4 := F
  have hl : lv_has ls 3 [(0, .int (iI x0)), (1, .int (iI x1)), (2, .int (iI x2))] := hl
  refine lv_iload_n F.1 F.2.1 dX4_isIn_0 rfl (lv_at hl 0 rfl) ?_
  refine lv_iload_n F.1 F.2.1 dX4_isIn_1 rfl (lv_at hl 1 rfl) ?_
  obtain ⟨g1, h⟩ := h
  obtain ⟨g2, h⟩ := h
  refine gv_icmp_lt (tgt := 14) F g1 g2 dX4_isIn_2 (by decide) (fun c3 => ?_) (fun c3 => ?_)
  · have h := h.1 c3
    refine gv_iconst F dX4_isIn_14 ?_
    exact ret 0 H locs 15 ls ⟨Or.inl rfl, h⟩ rfl hS dX4_isIn_15
  · have h := h.2 c3
    refine lv_iload_n F.1 F.2.1 dX4_isIn_5 rfl (lv_at hl 0 rfl) ?_
    refine lv_iload_n F.1 F.2.1 dX4_isIn_6 rfl (lv_at hl 2 rfl) ?_
    obtain ⟨g4, h⟩ := h
    refine gv_icmp_gt (tgt := 14) F g1 g4 dX4_isIn_7 (by decide) (fun c5 => ?_) (fun c5 => ?_)
    · have h := h.1 c5
      refine gv_iconst F dX4_isIn_14 ?_
      exact ret 0 H locs 15 ls ⟨Or.inl rfl, h⟩ rfl hS dX4_isIn_15
    · have h := h.2 c5
      refine gv_iconst F dX4_isIn_10 ?_
      refine lv_goto (tgt := 15) F.1 F.2.1 dX4_isIn_11 (by decide) ?_
      exact ret 1 H locs 15 ls ⟨Or.inr rfl, h⟩ rfl hS dX4_isIn_15
abbrev rX4_lays : Room := { frames := 0, cells := 0, slots := 0, locals := 0 }
set_option maxHeartbeats 4000000 in
set_option maxRecDepth 20000 in
theorem c_X4_lays (l : Launch) (D : va_G) (cy : ClassId) (a : Nat) (b : Nat) (f : AR) (g : AR) (Q : AR → Prop) (h : wX4_lays f g Q) : MetV l yX4_lays (wT yX4_lays cX4_lays 3 none) rX4_lays D cy [.ref a, .ref b] (wA2 cy a b 147 f g) (fun u : AR => wA2 cy a b 147 f u) (fun u => Q u) := by
  refine gI_V (by decide) (Nat.le_of_ble_eq_true rfl) ?_
  intro p e s m args below meth c A Qg F hK hA ret H locs ls hl hP hD hS
  have F : CallFix p m c cX4_lays 3 s args gT RX4 := F
  have hl : lv_has ls 3 [(0, .ref a), (1, .ref b)] := hl
  have L2 : ∀ (n : Nat) (y2 : Int) (g : AR) (H : Heap) (locs : List Loc) (ls : Array Slot), wX4_lays_2 f Q n y2 g → va_P D vwCl (wA2 cy a b 147 f g) H → va_D A (wA2 cy a b 147 f g) → va_S A s.heap H locs → lv_has ls 3 [(0, .ref a), (1, .ref b), (2, .int (iI y2))] → W p l e rX4_lays s m args below meth c H locs 0 0 Qg (F0 m 2 ls []) := by
    intro  n
    induction n with
    | zero => intro _ _ _ _ _ h; exact h.elim
    | succ n ih =>
      intro y2 g H locs ls h hP hD hS hl
      rw [wX4_lays_2_s] at h
      refine lv_iload_n F.1 F.2.1 dX4_lays_2 rfl (lv_at hl 2 rfl) ?_
      refine gv_sipush F ⟨by decide, by decide⟩ dX4_lays_3 ?_
      obtain ⟨g1, h⟩ := h
      refine gv_icmp_ge (tgt := 21) F g1 ⟨by decide, by decide⟩ dX4_lays_6 (by decide) (fun c2 => ?_) (fun c2 => ?_)
      · have h := h.1 c2
        exact ret g H locs 21 ls h hP hD hS dX4_lays_21
      · have h := h.2 c2
        refine lv_aload_n F.1 F.2.1 dX4_lays_9 rfl (lv_at hl 1 rfl) ?_
        refine lv_iload_n F.1 F.2.1 dX4_lays_10 rfl (lv_at hl 2 rfl) ?_
        refine lv_aload_n F.1 F.2.1 dX4_lays_11 rfl (lv_at hl 0 rfl) ?_
        refine lv_iload_n F.1 F.2.1 dX4_lays_12 rfl (lv_at hl 2 rfl) ?_
        obtain ⟨g3, h⟩ := h
        refine gv_iald (n := 147) (g := f) F hK hP 0 rfl rfl (by decide) g3 dX4_lays_13 ?_
        obtain ⟨g4, h⟩ := h
        obtain ⟨z5, ez5⟩ : ∃ z : AR, z = su g y2 (f y2) := ⟨_, rfl⟩
        have h := h z5 ez5
        refine gv_iast (n := 147) (g := g) (ws' := wA2 cy a b 147 f z5) F hK hP hD hS 1 rfl rfl (by decide) g4 (by subst ez5; exact rfl) dX4_lays_14 (fun H locs hP hD hS => ?_)
        obtain ⟨v6, ev6⟩ : ∃ z : Int, z = y2 + 1 := ⟨_, rfl⟩
        have h := h v6 ev6
        refine gv_iinc (lv' := [(2, .int (iI v6)), (0, .ref a), (1, .ref b)]) F dX4_lays_15 hl (k := 2) rfl ev6 (by decide) rfl (fun ls hl => ?_)
        refine lv_goto (tgt := 2) F.1 F.2.1 dX4_lays_18 (by decide) ?_
        exact ih v6 z5 H locs ls h hP hD hS (lv_sub hl [1, 2, 0] rfl)
  refine gv_iconst F dX4_lays_0 ?_
  refine lv_istore_n (lv' := [(2, .int (iI 0)), (0, .ref a), (1, .ref b)]) F.1 F.2.1 dX4_lays_1 rfl hl (by decide) rfl (fun ls hl => ?_)
  obtain ⟨n7, h⟩ := h
  exact L2 n7 0 g H locs ls h hP hD hS (lv_sub hl [1, 2, 0] rfl)
abbrev rX4_no : Room := { frames := 0, cells := 0, slots := 0, locals := 0 }
set_option maxHeartbeats 4000000 in
set_option maxRecDepth 20000 in
theorem c_X4_no (l : Launch) (D : va_G) (cy : ClassId) (ad : Nat → Nat) (o : AR) (ss : AR) (mm : AR) (im : AR) (wa : AR) (le : AR) (ro : AR) (re : AR) (fa : AR) (nu : AR) (x1 : Int) (Q : Int → AR → Prop) (h : wX4_no re x1 Q) : MetI l yX4_no (wT yX4_no cX4_no 2 (some .int)) rX4_no D cy [.ref (ad 0), .int (iI x1)] (wMd cy ad o ss mm im wa le ro re fa nu) (fun u : AR => wMd cy ad o ss mm im wa le ro u fa nu) (fun r u => Q r u) := by
  refine gI_I (by decide) (Nat.le_of_ble_eq_true rfl) ?_
  intro p e s m args below meth c A Qg F hK hA ret H locs ls hl hP hD hS
  have F : CallFix p m c cX4_no 2 s args gT RX4 := F
  have hl : lv_has ls 2 [(0, .ref (ad 0)), (1, .int (iI x1))] := hl
  refine lv_aload_n F.1 F.2.1 dX4_no_0 rfl (lv_at hl 0 rfl) ?_
  refine gv_get F hin4 hK hP 0 rfl rfl 7 (by decide) k763 rfl dX4_no_1 ?_
  refine lv_iload_n F.1 F.2.1 dX4_no_4 rfl (lv_at hl 1 rfl) ?_
  refine gv_ineg F dX4_no_5 ?_
  refine lv_dup2_11 F.1 F.2.1 dX4_no_6 rfl rfl ?_
  obtain ⟨g1, h⟩ := h
  refine gv_iald (n := 7) (g := re) F hK hP 7 rfl rfl (by decide) g1 dX4_no_7 ?_
  refine gv_iconst F dX4_no_8 ?_
  refine gv_iadd F dX4_no_9 ?_
  obtain ⟨g2, h⟩ := h
  obtain ⟨z3, ez3⟩ : ∃ z : AR, z = su re (-x1) ((re (-x1)) + 1) := ⟨_, rfl⟩
  have h := h z3 ez3
  refine gv_iast (n := 7) (g := re) (ws' := wMd cy ad o ss mm im wa le ro z3 fa nu) F hK hP hD hS 7 rfl rfl (by decide) g2 (by subst ez3; exact rfl) dX4_no_10 (fun H locs hP hD hS => ?_)
  refine lv_iload_n F.1 F.2.1 dX4_no_11 rfl (lv_at hl 1 rfl) ?_
  exact ret x1 z3 H locs 12 ls h rfl hP hD hS dX4_no_12
abbrev rX4_noFar : Room := { frames := 1, cells := 0, slots := 0, locals := 21 }
set_option maxHeartbeats 4000000 in
set_option maxRecDepth 20000 in
theorem c_X4_noFar (l : Launch) (D : va_G) (cy : ClassId) (ad : Nat → Nat) (o : AR) (ss : AR) (mm : AR) (im : AR) (wa : AR) (le : AR) (ro : AR) (re : AR) (fa : AR) (nu : AR) (x1 : Int) (Q : Int → AR → Prop) (h : wX4_noFar re x1 Q) : MetI l yX4_noFar (wT yX4_noFar cX4_noFar 2 (some .int)) rX4_noFar D cy [.ref (ad 0), .int (iI x1)] (wMd cy ad o ss mm im wa le ro re fa nu) (fun u : AR => wMd cy ad o ss mm im wa le ro u fa nu) (fun r u => Q r u) := by
  refine gI_I (by decide) (Nat.le_of_ble_eq_true rfl) ?_
  intro p e s m args below meth c A Qg F hK hA ret H locs ls hl hP hD hS
  have F : CallFix p m c cX4_noFar 2 s args gT RX4 := F
  have hl : lv_has ls 2 [(0, .ref (ad 0)), (1, .int (iI x1))] := hl
  refine gv_ldc (n := 1000000000) F k896 rfl dX4_noFar_0 ?_
  refine lv_aload_n F.1 F.2.1 dX4_noFar_2 rfl (lv_at hl 0 rfl) ?_
  refine lv_iload_n F.1 F.2.1 dX4_noFar_3 rfl (lv_at hl 1 rfl) ?_
  refine gc_VI (As := [.int (iI x1)]) (wn := fun u : AR => wMd cy ad o ss mm im wa le ro u fa nu) F hK hA hP hD hS hP hD (fun u H1 _ h1 h2 => ⟨h1, h2⟩) (c_X4_no l D cy ad o ss mm im wa le ro re fa nu x1 _ h) (cwV 1 F.2.2.2.2 (gG_V k812 k814 k34 k67 k815) rfl rfl rfl hd_X4_no ⟨Nat.le_of_ble_eq_true rfl, Nat.le_of_ble_eq_true rfl⟩) rfl rfl dX4_noFar_4 rfl rfl hl.1 (Nat.le_of_ble_eq_true rfl) ⟨Nat.le_of_ble_eq_true rfl, Nat.le_of_ble_eq_true rfl⟩ (fun u2 z1 H locs h hP hD hS => ?_)
  try dsimp only at h hP hD
  refine gv_isub F dX4_noFar_7 ?_
  exact ret (1000000000 - u2) z1 H locs 8 ls h rfl hP hD hS dX4_noFar_8
abbrev rX4_ask : Room := { frames := 0, cells := 0, slots := 0, locals := 0 }
set_option maxHeartbeats 4000000 in
set_option maxRecDepth 20000 in
theorem c_X4_ask (l : Launch) (D : va_G) (cy : ClassId)   (x0 x1 : Int) (Q : Int → Prop) (h : wX4_ask x0 x1 Q) : MetR l yX4_ask (wT yX4_ask cX4_ask 2 (some .int)) rX4_ask D cy [.int (iI x0), .int (iI x1)] ([]) Q := by
  refine gI_R (by decide) (Nat.le_of_ble_eq_true rfl) ?_
  intro p e s m args below meth c A Qg F hK hA ret H locs ls hl hP hS
  have F : CallFix p m c cX4_ask 2 s args gT RX4 := F
  have hl : lv_has ls 2 [(0, .int (iI x0)), (1, .int (iI x1))] := hl
  refine gv_bipush F ⟨by decide, by decide⟩ dX4_ask_0 ?_
  refine gv_iconst F dX4_ask_2 ?_
  refine lv_iload_n F.1 F.2.1 dX4_ask_3 rfl (lv_at hl 0 rfl) ?_
  refine gv_imul F dX4_ask_4 ?_
  refine gv_iadd F dX4_ask_5 ?_
  refine lv_iload_n F.1 F.2.1 dX4_ask_6 rfl (lv_at hl 1 rfl) ?_
  refine gv_iadd F dX4_ask_7 ?_
  exact ret ((10 + (4 * x0)) + x1) H locs 8 ls h rfl hS dX4_ask_8
abbrev rX4_of : Room := { frames := 0, cells := 0, slots := 0, locals := 0 }
set_option maxHeartbeats 4000000 in
set_option maxRecDepth 20000 in
theorem c_X4_of (l : Launch) (D : va_G) (cy : ClassId)   (x0 x1 : Int) (Q : Int → Prop) (h : wX4_of x0 x1 Q) : MetR l yX4_of (wT yX4_of cX4_of 2 (some .int)) rX4_of D cy [.int (iI x0), .int (iI x1)] ([]) Q := by
  refine gI_R (by decide) (Nat.le_of_ble_eq_true rfl) ?_
  intro p e s m args below meth c A Qg F hK hA ret H locs ls hl hP hS
  have F : CallFix p m c cX4_of 2 s args gT RX4 := F
  have hl : lv_has ls 2 [(0, .int (iI x0)), (1, .int (iI x1))] := hl
  refine gv_bipush F ⟨by decide, by decide⟩ dX4_of_0 ?_
  refine gv_iconst F dX4_of_2 ?_
  refine lv_iload_n F.1 F.2.1 dX4_of_3 rfl (lv_at hl 0 rfl) ?_
  refine gv_imul F dX4_of_4 ?_
  refine gv_iadd F dX4_of_5 ?_
  refine lv_iload_n F.1 F.2.1 dX4_of_6 rfl (lv_at hl 1 rfl) ?_
  refine gv_iadd F dX4_of_7 ?_
  exact ret ((42 + (5 * x0)) + x1) H locs 8 ls h rfl hS dX4_of_8
abbrev rX4_sheetOf : Room := { frames := 0, cells := 0, slots := 0, locals := 0 }
set_option maxHeartbeats 4000000 in
set_option maxRecDepth 20000 in
theorem c_X4_sheetOf (l : Launch) (D : va_G) (cy : ClassId)   (x0 x1 : Int) (Q : Int → Prop) (h : wX4_sheetOf x0 x1 Q) : MetR l yX4_sheetOf (wT yX4_sheetOf cX4_sheetOf 2 (some .int)) rX4_sheetOf D cy [.int (iI x0), .int (iI x1)] ([]) Q := by
  refine gI_R (by decide) (Nat.le_of_ble_eq_true rfl) ?_
  intro p e s m args below meth c A Qg F hK hA ret H locs ls hl hP hS
  have F : CallFix p m c cX4_sheetOf 2 s args gT RX4 := F
  have hl : lv_has ls 2 [(0, .int (iI x0)), (1, .int (iI x1))] := hl
  refine gv_bipush F ⟨by decide, by decide⟩ dX4_sheetOf_0 ?_
  refine gv_bipush F ⟨by decide, by decide⟩ dX4_sheetOf_2 ?_
  refine lv_iload_n F.1 F.2.1 dX4_sheetOf_4 rfl (lv_at hl 0 rfl) ?_
  refine gv_imul F dX4_sheetOf_5 ?_
  refine gv_iadd F dX4_sheetOf_6 ?_
  refine lv_iload_n F.1 F.2.1 dX4_sheetOf_7 rfl (lv_at hl 1 rfl) ?_
  refine gv_iadd F dX4_sheetOf_8 ?_
  exact ret ((67 + (8 * x0)) + x1) H locs 9 ls h rfl hS dX4_sheetOf_9
abbrev rX4_fromOf : Room := { frames := 0, cells := 0, slots := 0, locals := 0 }
set_option maxHeartbeats 4000000 in
set_option maxRecDepth 20000 in
theorem c_X4_fromOf (l : Launch) (D : va_G) (cy : ClassId)   (x0 x1 : Int) (Q : Int → Prop) (h : wX4_fromOf x0 x1 Q) : MetR l yX4_fromOf (wT yX4_fromOf cX4_fromOf 2 (some .int)) rX4_fromOf D cy [.int (iI x0), .int (iI x1)] ([]) Q := by
  refine gI_R (by decide) (Nat.le_of_ble_eq_true rfl) ?_
  intro p e s m args below meth c A Qg F hK hA ret H locs ls hl hP hS
  have F : CallFix p m c cX4_fromOf 2 s args gT RX4 := F
  have hl : lv_has ls 2 [(0, .int (iI x0)), (1, .int (iI x1))] := hl
  refine gv_bipush F ⟨by decide, by decide⟩ dX4_fromOf_0 ?_
  refine gv_bipush F ⟨by decide, by decide⟩ dX4_fromOf_2 ?_
  refine lv_iload_n F.1 F.2.1 dX4_fromOf_4 rfl (lv_at hl 0 rfl) ?_
  refine gv_imul F dX4_fromOf_5 ?_
  refine gv_iadd F dX4_fromOf_6 ?_
  refine lv_iload_n F.1 F.2.1 dX4_fromOf_7 rfl (lv_at hl 1 rfl) ?_
  refine gv_iadd F dX4_fromOf_8 ?_
  exact ret ((107 + (8 * x0)) + x1) H locs 9 ls h rfl hS dX4_fromOf_9
abbrev rX4_isRoom : Room := { frames := 1, cells := 0, slots := 0, locals := 22 }
set_option maxHeartbeats 4000000 in
set_option maxRecDepth 20000 in
theorem c_X4_isRoom (l : Launch) (D : va_G) (cy : ClassId)   (x0 : Int) (Q : Int → Prop) (h : wX4_isRoom x0 Q) : MetR l yX4_isRoom (wT yX4_isRoom cX4_isRoom 1 (some .boolean)) rX4_isRoom D cy [.int (iI x0)] ([]) (fun u => (u = 0 ∨ u = 1) ∧ Q u) := by
  refine gI_R (by decide) (Nat.le_of_ble_eq_true rfl) ?_
  intro p e s m args below meth c A Qg F hK hA ret H locs ls hl hP hS
  have F : CallFix p m c cX4_isRoom 1 s args gT RX4 := F
  have hl : lv_has ls 1 [(0, .int (iI x0))] := hl
  refine lv_iload_n F.1 F.2.1 dX4_isRoom_0 rfl (lv_at hl 0 rfl) ?_
  refine gv_iconst F dX4_isRoom_1 ?_
  refine gv_bipush F ⟨by decide, by decide⟩ dX4_isRoom_2 ?_
  refine gc_SR (As := [.int (iI x0), .int (iI 0), .int (iI 6)]) F hK hA hP hS gPnil (c_X4_isIn l D cy x0 0 6 _ h) (cwS 3 F.2.2.2.2 (gG_S k832 k833 k67 k834) rfl rfl rfl hd_X4_isIn ⟨Nat.le_of_ble_eq_true rfl, Nat.le_of_ble_eq_true rfl⟩) dX4_isRoom_4 rfl rfl hl.1 (Nat.le_of_ble_eq_true rfl) ⟨Nat.le_of_ble_eq_true rfl, Nat.le_of_ble_eq_true rfl⟩ (fun u1 H locs h hP hS => ?_)
  obtain ⟨bu1, h⟩ := h
  exact ret u1 H locs 7 ls ⟨bu1, h⟩ (gNb bu1) hS dX4_isRoom_7
abbrev rX4_isQuestion : Room := { frames := 1, cells := 0, slots := 0, locals := 22 }
set_option maxHeartbeats 4000000 in
set_option maxRecDepth 20000 in
theorem c_X4_isQuestion (l : Launch) (D : va_G) (cy : ClassId) (ad : Nat → Nat) (o : AR) (ss : AR) (mm : AR) (im : AR) (wa : AR) (le : AR) (ro : AR) (re : AR) (fa : AR) (nu : AR) (x1 : Int) (Q : Int → Prop) (h : wX4_isQuestion ss x1 Q) : MetR l yX4_isQuestion (wT yX4_isQuestion cX4_isQuestion 2 (some .boolean)) rX4_isQuestion D cy [.ref (ad 0), .int (iI x1)] (wMd cy ad o ss mm im wa le ro re fa nu) (fun u => (u = 0 ∨ u = 1) ∧ Q u) := by
  refine gI_R (by decide) (Nat.le_of_ble_eq_true rfl) ?_
  intro p e s m args below meth c A Qg F hK hA ret H locs ls hl hP hS
  have F : CallFix p m c cX4_isQuestion 2 s args gT RX4 := F
  have hl : lv_has ls 2 [(0, .ref (ad 0)), (1, .int (iI x1))] := hl
  refine lv_iload_n F.1 F.2.1 dX4_isQuestion_0 rfl (lv_at hl 1 rfl) ?_
  refine gv_iconst F dX4_isQuestion_1 ?_
  refine lv_aload_n F.1 F.2.1 dX4_isQuestion_2 rfl (lv_at hl 0 rfl) ?_
  refine gv_get F hin4 hK hP 0 rfl rfl 0 (by decide) k756 rfl dX4_isQuestion_3 ?_
  refine gv_iconst F dX4_isQuestion_6 ?_
  refine gv_iald (n := 147) (g := ss) F hK hP 1 rfl rfl (by decide) ⟨by decide, by decide⟩ dX4_isQuestion_7 ?_
  refine gv_iconst F dX4_isQuestion_8 ?_
  refine gv_isub F dX4_isQuestion_9 ?_
  refine gc_SR (As := [.int (iI x1), .int (iI 0), .int (iI ((ss 0) - 1))]) F hK hA hP hS gPnil (c_X4_isIn l D cy x1 0 ((ss 0) - 1) _ h) (cwS 3 F.2.2.2.2 (gG_S k832 k833 k67 k834) rfl rfl rfl hd_X4_isIn ⟨Nat.le_of_ble_eq_true rfl, Nat.le_of_ble_eq_true rfl⟩) dX4_isQuestion_10 rfl rfl hl.1 (Nat.le_of_ble_eq_true rfl) ⟨Nat.le_of_ble_eq_true rfl, Nat.le_of_ble_eq_true rfl⟩ (fun u1 H locs h hP hS => ?_)
  obtain ⟨bu1, h⟩ := h
  exact ret u1 H locs 13 ls ⟨bu1, h⟩ (gNb bu1) hS dX4_isQuestion_13
abbrev rX4_isGroup : Room := { frames := 1, cells := 0, slots := 0, locals := 22 }
set_option maxHeartbeats 4000000 in
set_option maxRecDepth 20000 in
theorem c_X4_isGroup (l : Launch) (D : va_G) (cy : ClassId) (ad : Nat → Nat) (o : AR) (ss : AR) (mm : AR) (im : AR) (wa : AR) (le : AR) (ro : AR) (re : AR) (fa : AR) (nu : AR) (x1 : Int) (Q : Int → Prop) (h : wX4_isGroup ss x1 Q) : MetR l yX4_isGroup (wT yX4_isGroup cX4_isGroup 2 (some .boolean)) rX4_isGroup D cy [.ref (ad 0), .int (iI x1)] (wMd cy ad o ss mm im wa le ro re fa nu) (fun u => (u = 0 ∨ u = 1) ∧ Q u) := by
  refine gI_R (by decide) (Nat.le_of_ble_eq_true rfl) ?_
  intro p e s m args below meth c A Qg F hK hA ret H locs ls hl hP hS
  have F : CallFix p m c cX4_isGroup 2 s args gT RX4 := F
  have hl : lv_has ls 2 [(0, .ref (ad 0)), (1, .int (iI x1))] := hl
  refine lv_iload_n F.1 F.2.1 dX4_isGroup_0 rfl (lv_at hl 1 rfl) ?_
  refine gv_iconst F dX4_isGroup_1 ?_
  refine lv_aload_n F.1 F.2.1 dX4_isGroup_2 rfl (lv_at hl 0 rfl) ?_
  refine gv_get F hin4 hK hP 0 rfl rfl 0 (by decide) k756 rfl dX4_isGroup_3 ?_
  refine gv_iconst F dX4_isGroup_6 ?_
  refine gv_iald (n := 147) (g := ss) F hK hP 1 rfl rfl (by decide) ⟨by decide, by decide⟩ dX4_isGroup_7 ?_
  refine gv_iconst F dX4_isGroup_8 ?_
  refine gv_isub F dX4_isGroup_9 ?_
  refine gc_SR (As := [.int (iI x1), .int (iI 0), .int (iI ((ss 1) - 1))]) F hK hA hP hS gPnil (c_X4_isIn l D cy x1 0 ((ss 1) - 1) _ h) (cwS 3 F.2.2.2.2 (gG_S k832 k833 k67 k834) rfl rfl rfl hd_X4_isIn ⟨Nat.le_of_ble_eq_true rfl, Nat.le_of_ble_eq_true rfl⟩) dX4_isGroup_10 rfl rfl hl.1 (Nat.le_of_ble_eq_true rfl) ⟨Nat.le_of_ble_eq_true rfl, Nat.le_of_ble_eq_true rfl⟩ (fun u1 H locs h hP hS => ?_)
  obtain ⟨bu1, h⟩ := h
  exact ret u1 H locs 13 ls ⟨bu1, h⟩ (gNb bu1) hS dX4_isGroup_13
abbrev rX4_doorsTo : Room := { frames := 0, cells := 0, slots := 0, locals := 0 }
set_option maxHeartbeats 4000000 in
set_option maxRecDepth 20000 in
theorem c_X4_doorsTo (l : Launch) (D : va_G) (cy : ClassId) (ad : Nat → Nat) (b : Nat) (o : AR) (fa : AR) (r : AR) (x2 : Int) (Q : AR → Prop) (h : wX4_doorsTo fa r x2 Q) : MetV l yX4_doorsTo (wT yX4_doorsTo cX4_doorsTo 6 none) rX4_doorsTo D cy [.ref (ad 0), .ref b, .int (iI x2)] (wMf cy ad b o fa r) (fun u : AR => wMf cy ad b o u r) (fun u => Q u) := by
  refine gI_V (by decide) (Nat.le_of_ble_eq_true rfl) ?_
  intro p e s m args below meth c A Qg F hK hA ret H locs ls hl hP hD hS
  have F : CallFix p m c cX4_doorsTo 6 s args gT RX4 := F
  have hl : lv_has ls 6 [(0, .ref (ad 0)), (1, .ref b), (2, .int (iI x2))] := hl
  have L52 : ∀ (K33 : Int → AR → Prop) (hK33 : ∀ (y3 : Int) (fa : AR) (H : Heap) (locs : List Loc) (ls : Array Slot), K33 y3 fa → va_P D vwCl (wMf cy ad b o fa r) H → va_D A (wMf cy ad b o fa r) → va_S A s.heap H locs → lv_has ls 6 [(0, .ref (ad 0)), (1, .ref b), (3, .int (iI y3))] → W p l e rX4_doorsTo s m args below meth c H locs 0 0 Qg (F0 m 33 ls [])) (K42 : Int → Int → AR → Prop) (hK42 : ∀ (y3 : Int) (y4 : Int) (fa : AR) (H : Heap) (locs : List Loc) (ls : Array Slot), K42 y3 y4 fa → va_P D vwCl (wMf cy ad b o fa r) H → va_D A (wMf cy ad b o fa r) → va_S A s.heap H locs → lv_has ls 6 [(0, .ref (ad 0)), (1, .ref b), (3, .int (iI y3)), (4, .int (iI y4))] → W p l e rX4_doorsTo s m args below meth c H locs 0 0 Qg (F0 m 42 ls [])) (n : Nat) (y3 : Int) (y4 : Int) (y5 : Int) (fa : AR) (H : Heap) (locs : List Loc) (ls : Array Slot), wX4_doorsTo_52 r K33 K42 Q n y3 y4 y5 fa → va_P D vwCl (wMf cy ad b o fa r) H → va_D A (wMf cy ad b o fa r) → va_S A s.heap H locs → lv_has ls 6 [(0, .ref (ad 0)), (1, .ref b), (3, .int (iI y3)), (4, .int (iI y4)), (5, .int (iI y5))] → W p l e rX4_doorsTo s m args below meth c H locs 0 0 Qg (F0 m 52 ls []) := by
    intro K33 hK33 K42 hK42 n
    induction n with
    | zero => intro _ _ _ _ _ _ _ h; exact h.elim
    | succ n ih =>
      intro y3 y4 y5 fa H locs ls h hP hD hS hl
      rw [wX4_doorsTo_52_s] at h
      refine lv_iload F.1 F.2.1 dX4_doorsTo_52 (lv_at hl 4 rfl) ?_
      refine gv_bipush F ⟨by decide, by decide⟩ dX4_doorsTo_54 ?_
      obtain ⟨g1, h⟩ := h
      refine gv_icmp_ge (tgt := 113) F g1 ⟨by decide, by decide⟩ dX4_doorsTo_56 (by decide) (fun c2 => ?_) (fun c2 => ?_)
      · have h := h.1 c2
        obtain ⟨v3, ev3⟩ : ∃ z : Int, z = y4 + 1 := ⟨_, rfl⟩
        have h := h v3 ev3
        refine gv_iinc (lv' := [(4, .int (iI v3)), (0, .ref (ad 0)), (1, .ref b), (3, .int (iI y3)), (5, .int (iI y5))]) F dX4_doorsTo_113 hl (k := 3) rfl ev3 (by decide) rfl (fun ls hl => ?_)
        refine lv_goto (tgt := 42) F.1 F.2.1 dX4_doorsTo_116 (by decide) ?_
        exact hK42 y3 v3 fa H locs ls h hP hD hS (lv_sub hl [1, 2, 3, 0] rfl)
      · have h := h.2 c2
        refine lv_aload_n F.1 F.2.1 dX4_doorsTo_59 rfl (lv_at hl 0 rfl) ?_
        refine gv_get F hin4 hK hP 0 rfl rfl 10 (by decide) k766 rfl dX4_doorsTo_60 ?_
        refine lv_iload F.1 F.2.1 dX4_doorsTo_63 (lv_at hl 3 rfl) ?_
        obtain ⟨g4, h⟩ := h
        refine gv_iald (n := 7) (g := fa) F hK hP 1 rfl rfl (by decide) g4 dX4_doorsTo_65 ?_
        refine lv_iload_n F.1 F.2.1 dX4_doorsTo_66 rfl (lv_at hl 2 rfl) ?_
        obtain ⟨g5, h⟩ := h
        obtain ⟨g6, h⟩ := h
        refine gv_icmp_ne (tgt := 107) F g5 g6 dX4_doorsTo_67 (by decide) (fun c7 => ?_) (fun c7 => ?_)
        · have h := h.1 c7
          obtain ⟨v8, ev8⟩ : ∃ z : Int, z = y5 + 1 := ⟨_, rfl⟩
          have h := h v8 ev8
          refine gv_iinc (lv' := [(5, .int (iI v8)), (0, .ref (ad 0)), (1, .ref b), (3, .int (iI y3)), (4, .int (iI y4))]) F dX4_doorsTo_107 hl (k := 4) rfl ev8 (by decide) rfl (fun ls hl => ?_)
          refine lv_goto (tgt := 52) F.1 F.2.1 dX4_doorsTo_110 (by decide) ?_
          exact ih y3 y4 v8 fa H locs ls h hP hD hS (lv_sub hl [1, 2, 3, 4, 0] rfl)
        · have h := h.2 c7
          refine lv_aload_n F.1 F.2.1 dX4_doorsTo_70 rfl (lv_at hl 1 rfl) ?_
          refine gv_iconst F dX4_doorsTo_71 ?_
          refine lv_iload F.1 F.2.1 dX4_doorsTo_72 (lv_at hl 3 rfl) ?_
          refine gv_iadd F dX4_doorsTo_74 ?_
          obtain ⟨g9, h⟩ := h
          refine gv_iald (n := 147) (g := r) F hK hP 2 rfl rfl (by decide) g9 dX4_doorsTo_75 ?_
          refine lv_iload F.1 F.2.1 dX4_doorsTo_76 (lv_at hl 4 rfl) ?_
          obtain ⟨g10, h⟩ := h
          obtain ⟨g11, h⟩ := h
          refine gv_ishr F g10 g11 dX4_doorsTo_78 ?_
          refine gv_iconst F dX4_doorsTo_79 ?_
          refine gv_iand F 1 (by decide) (by decide) dX4_doorsTo_80 ?_
          refine gv_iconst F dX4_doorsTo_81 ?_
          obtain ⟨g12, h⟩ := h
          refine gv_icmp_ne (tgt := 107) F g12 ⟨by decide, by decide⟩ dX4_doorsTo_82 (by decide) (fun c13 => ?_) (fun c13 => ?_)
          · have h := h.1 c13
            obtain ⟨v14, ev14⟩ : ∃ z : Int, z = y5 + 1 := ⟨_, rfl⟩
            have h := h v14 ev14
            refine gv_iinc (lv' := [(5, .int (iI v14)), (0, .ref (ad 0)), (1, .ref b), (3, .int (iI y3)), (4, .int (iI y4))]) F dX4_doorsTo_107 hl (k := 4) rfl ev14 (by decide) rfl (fun ls hl => ?_)
            refine lv_goto (tgt := 52) F.1 F.2.1 dX4_doorsTo_110 (by decide) ?_
            exact ih y3 y4 v14 fa H locs ls h hP hD hS (lv_sub hl [1, 2, 3, 4, 0] rfl)
          · have h := h.2 c13
            refine lv_aload_n F.1 F.2.1 dX4_doorsTo_85 rfl (lv_at hl 0 rfl) ?_
            refine gv_get F hin4 hK hP 0 rfl rfl 10 (by decide) k766 rfl dX4_doorsTo_86 ?_
            refine lv_iload F.1 F.2.1 dX4_doorsTo_89 (lv_at hl 4 rfl) ?_
            obtain ⟨g15, h⟩ := h
            refine gv_iald (n := 7) (g := fa) F hK hP 1 rfl rfl (by decide) g15 dX4_doorsTo_91 ?_
            refine gv_ldc (n := 1000000000) F k896 rfl dX4_doorsTo_92 ?_
            obtain ⟨g16, h⟩ := h
            refine gv_icmp_ne (tgt := 107) F g16 ⟨by decide, by decide⟩ dX4_doorsTo_94 (by decide) (fun c17 => ?_) (fun c17 => ?_)
            · have h := h.1 c17
              obtain ⟨v18, ev18⟩ : ∃ z : Int, z = y5 + 1 := ⟨_, rfl⟩
              have h := h v18 ev18
              refine gv_iinc (lv' := [(5, .int (iI v18)), (0, .ref (ad 0)), (1, .ref b), (3, .int (iI y3)), (4, .int (iI y4))]) F dX4_doorsTo_107 hl (k := 4) rfl ev18 (by decide) rfl (fun ls hl => ?_)
              refine lv_goto (tgt := 52) F.1 F.2.1 dX4_doorsTo_110 (by decide) ?_
              exact ih y3 y4 v18 fa H locs ls h hP hD hS (lv_sub hl [1, 2, 3, 4, 0] rfl)
            · have h := h.2 c17
              refine lv_aload_n F.1 F.2.1 dX4_doorsTo_97 rfl (lv_at hl 0 rfl) ?_
              refine gv_get F hin4 hK hP 0 rfl rfl 10 (by decide) k766 rfl dX4_doorsTo_98 ?_
              refine lv_iload F.1 F.2.1 dX4_doorsTo_101 (lv_at hl 4 rfl) ?_
              refine lv_iload_n F.1 F.2.1 dX4_doorsTo_103 rfl (lv_at hl 2 rfl) ?_
              refine gv_iconst F dX4_doorsTo_104 ?_
              refine gv_iadd F dX4_doorsTo_105 ?_
              obtain ⟨g19, h⟩ := h
              obtain ⟨z20, ez20⟩ : ∃ z : AR, z = su fa y5 (y3 + 1) := ⟨_, rfl⟩
              have h := h z20 ez20
              refine gv_iast (n := 7) (g := fa) (ws' := wMf cy ad b o z20 r) F hK hP hD hS 1 rfl rfl (by decide) g19 (by subst ez20; exact rfl) dX4_doorsTo_106 (fun H locs hP hD hS => ?_)
              obtain ⟨v21, ev21⟩ : ∃ z : Int, z = y5 + 1 := ⟨_, rfl⟩
              have h := h v21 ev21
              refine gv_iinc (lv' := [(5, .int (iI v21)), (0, .ref (ad 0)), (1, .ref b), (3, .int (iI y3)), (4, .int (iI y4))]) F dX4_doorsTo_107 hl (k := 4) rfl ev21 (by decide) rfl (fun ls hl => ?_)
              refine lv_goto (tgt := 52) F.1 F.2.1 dX4_doorsTo_110 (by decide) ?_
              exact ih y3 y4 v21 z20 H locs ls h hP hD hS (lv_sub hl [1, 2, 3, 4, 0] rfl)
  have L42 : ∀ (K33 : Int → AR → Prop) (hK33 : ∀ (y3 : Int) (fa : AR) (H : Heap) (locs : List Loc) (ls : Array Slot), K33 y3 fa → va_P D vwCl (wMf cy ad b o fa r) H → va_D A (wMf cy ad b o fa r) → va_S A s.heap H locs → lv_has ls 6 [(0, .ref (ad 0)), (1, .ref b), (3, .int (iI y3))] → W p l e rX4_doorsTo s m args below meth c H locs 0 0 Qg (F0 m 33 ls [])) (n : Nat) (y3 : Int) (y4 : Int) (fa : AR) (H : Heap) (locs : List Loc) (ls : Array Slot), wX4_doorsTo_42 r K33 Q n y3 y4 fa → va_P D vwCl (wMf cy ad b o fa r) H → va_D A (wMf cy ad b o fa r) → va_S A s.heap H locs → lv_has ls 6 [(0, .ref (ad 0)), (1, .ref b), (3, .int (iI y3)), (4, .int (iI y4))] → W p l e rX4_doorsTo s m args below meth c H locs 0 0 Qg (F0 m 42 ls []) := by
    intro K33 hK33 n
    induction n with
    | zero => intro _ _ _ _ _ _ h; exact h.elim
    | succ n ih =>
      intro y3 y4 fa H locs ls h hP hD hS hl
      rw [wX4_doorsTo_42_s] at h
      refine lv_iload F.1 F.2.1 dX4_doorsTo_42 (lv_at hl 3 rfl) ?_
      refine gv_bipush F ⟨by decide, by decide⟩ dX4_doorsTo_44 ?_
      obtain ⟨g22, h⟩ := h
      refine gv_icmp_ge (tgt := 119) F g22 ⟨by decide, by decide⟩ dX4_doorsTo_46 (by decide) (fun c23 => ?_) (fun c23 => ?_)
      · have h := h.1 c23
        obtain ⟨v24, ev24⟩ : ∃ z : Int, z = y3 + 1 := ⟨_, rfl⟩
        have h := h v24 ev24
        refine gv_iinc (lv' := [(3, .int (iI v24)), (0, .ref (ad 0)), (1, .ref b), (4, .int (iI y4))]) F dX4_doorsTo_119 hl (k := 2) rfl ev24 (by decide) rfl (fun ls hl => ?_)
        refine lv_goto (tgt := 33) F.1 F.2.1 dX4_doorsTo_122 (by decide) ?_
        exact hK33 v24 fa H locs ls h hP hD hS (lv_sub hl [1, 2, 0] rfl)
      · have h := h.2 c23
        refine gv_iconst F dX4_doorsTo_49 ?_
        refine lv_istore (lv' := [(5, .int (iI 0)), (0, .ref (ad 0)), (1, .ref b), (3, .int (iI y3)), (4, .int (iI y4))]) F.1 F.2.1 dX4_doorsTo_50 hl (by decide) rfl (fun ls hl => ?_)
        obtain ⟨n25, h⟩ := h
        exact L52 _ hK33 _ ih n25 y3 y4 0 fa H locs ls h hP hD hS (lv_sub hl [1, 2, 3, 4, 0] rfl)
  have L33 : ∀ (n : Nat) (y3 : Int) (fa : AR) (H : Heap) (locs : List Loc) (ls : Array Slot), wX4_doorsTo_33 r Q n y3 fa → va_P D vwCl (wMf cy ad b o fa r) H → va_D A (wMf cy ad b o fa r) → va_S A s.heap H locs → lv_has ls 6 [(0, .ref (ad 0)), (1, .ref b), (3, .int (iI y3))] → W p l e rX4_doorsTo s m args below meth c H locs 0 0 Qg (F0 m 33 ls []) := by
    intro  n
    induction n with
    | zero => intro _ _ _ _ _ h; exact h.elim
    | succ n ih =>
      intro y3 fa H locs ls h hP hD hS hl
      rw [wX4_doorsTo_33_s] at h
      refine lv_iload_n F.1 F.2.1 dX4_doorsTo_33 rfl (lv_at hl 2 rfl) ?_
      refine gv_bipush F ⟨by decide, by decide⟩ dX4_doorsTo_34 ?_
      obtain ⟨g26, h⟩ := h
      refine gv_icmp_ge (tgt := 125) F g26 ⟨by decide, by decide⟩ dX4_doorsTo_36 (by decide) (fun c27 => ?_) (fun c27 => ?_)
      · have h := h.1 c27
        exact ret fa H locs 125 ls h hP hD hS dX4_doorsTo_125
      · have h := h.2 c27
        refine gv_iconst F dX4_doorsTo_39 ?_
        refine lv_istore (lv' := [(4, .int (iI 0)), (0, .ref (ad 0)), (1, .ref b), (3, .int (iI y3))]) F.1 F.2.1 dX4_doorsTo_40 hl (by decide) rfl (fun ls hl => ?_)
        obtain ⟨n28, h⟩ := h
        exact L42 _ ih n28 y3 0 fa H locs ls h hP hD hS (lv_sub hl [1, 2, 3, 0] rfl)
  have L2 : ∀ (n : Nat) (y2 : Int) (y3 : Int) (fa : AR) (H : Heap) (locs : List Loc) (ls : Array Slot), wX4_doorsTo_2 r Q n y2 y3 fa → va_P D vwCl (wMf cy ad b o fa r) H → va_D A (wMf cy ad b o fa r) → va_S A s.heap H locs → lv_has ls 6 [(0, .ref (ad 0)), (1, .ref b), (2, .int (iI y2)), (3, .int (iI y3))] → W p l e rX4_doorsTo s m args below meth c H locs 0 0 Qg (F0 m 2 ls []) := by
    intro  n
    induction n with
    | zero => intro _ _ _ _ _ _ h; exact h.elim
    | succ n ih =>
      intro y2 y3 fa H locs ls h hP hD hS hl
      rw [wX4_doorsTo_2_s] at h
      refine lv_iload_n F.1 F.2.1 dX4_doorsTo_2 rfl (lv_at hl 3 rfl) ?_
      refine gv_bipush F ⟨by decide, by decide⟩ dX4_doorsTo_3 ?_
      obtain ⟨g29, h⟩ := h
      refine gv_icmp_ge (tgt := 31) F g29 ⟨by decide, by decide⟩ dX4_doorsTo_5 (by decide) (fun c30 => ?_) (fun c30 => ?_)
      · have h := h.1 c30
        refine gv_iconst F dX4_doorsTo_31 ?_
        refine lv_istore_n (lv' := [(3, .int (iI 0)), (0, .ref (ad 0)), (1, .ref b), (2, .int (iI y2))]) F.1 F.2.1 dX4_doorsTo_32 rfl hl (by decide) rfl (fun ls hl => ?_)
        obtain ⟨n31, h⟩ := h
        exact L33 n31 0 fa H locs ls h hP hD hS (lv_sub hl [1, 2, 0] rfl)
      · have h := h.2 c30
        refine lv_aload_n F.1 F.2.1 dX4_doorsTo_8 rfl (lv_at hl 0 rfl) ?_
        refine gv_get F hin4 hK hP 0 rfl rfl 10 (by decide) k766 rfl dX4_doorsTo_9 ?_
        refine lv_iload_n F.1 F.2.1 dX4_doorsTo_12 rfl (lv_at hl 3 rfl) ?_
        refine lv_iload_n F.1 F.2.1 dX4_doorsTo_13 rfl (lv_at hl 3 rfl) ?_
        refine lv_iload_n F.1 F.2.1 dX4_doorsTo_14 rfl (lv_at hl 2 rfl) ?_
        obtain ⟨g32, h⟩ := h
        refine gv_icmp_ne (tgt := 22) F g29 g32 dX4_doorsTo_15 (by decide) (fun c33 => ?_) (fun c33 => ?_)
        · have h := h.1 c33
          refine gv_ldc (n := 1000000000) F k896 rfl dX4_doorsTo_22 ?_
          obtain ⟨g34, h⟩ := h
          obtain ⟨z35, ez35⟩ : ∃ z : AR, z = su fa y3 1000000000 := ⟨_, rfl⟩
          have h := h z35 ez35
          refine gv_iast (n := 7) (g := fa) (ws' := wMf cy ad b o z35 r) F hK hP hD hS 1 rfl rfl (by decide) g34 (by subst ez35; exact rfl) dX4_doorsTo_24 (fun H locs hP hD hS => ?_)
          obtain ⟨v36, ev36⟩ : ∃ z : Int, z = y3 + 1 := ⟨_, rfl⟩
          have h := h v36 ev36
          refine gv_iinc (lv' := [(3, .int (iI v36)), (0, .ref (ad 0)), (1, .ref b), (2, .int (iI y2))]) F dX4_doorsTo_25 hl (k := 3) rfl ev36 (by decide) rfl (fun ls hl => ?_)
          refine lv_goto (tgt := 2) F.1 F.2.1 dX4_doorsTo_28 (by decide) ?_
          exact ih y2 v36 z35 H locs ls h hP hD hS (lv_sub hl [1, 2, 3, 0] rfl)
        · have h := h.2 c33
          refine gv_iconst F dX4_doorsTo_18 ?_
          refine lv_goto (tgt := 24) F.1 F.2.1 dX4_doorsTo_19 (by decide) ?_
          obtain ⟨g37, h⟩ := h
          obtain ⟨z38, ez38⟩ : ∃ z : AR, z = su fa y3 0 := ⟨_, rfl⟩
          have h := h z38 ez38
          refine gv_iast (n := 7) (g := fa) (ws' := wMf cy ad b o z38 r) F hK hP hD hS 1 rfl rfl (by decide) g37 (by subst ez38; exact rfl) dX4_doorsTo_24 (fun H locs hP hD hS => ?_)
          obtain ⟨v39, ev39⟩ : ∃ z : Int, z = y3 + 1 := ⟨_, rfl⟩
          have h := h v39 ev39
          refine gv_iinc (lv' := [(3, .int (iI v39)), (0, .ref (ad 0)), (1, .ref b), (2, .int (iI y2))]) F dX4_doorsTo_25 hl (k := 3) rfl ev39 (by decide) rfl (fun ls hl => ?_)
          refine lv_goto (tgt := 2) F.1 F.2.1 dX4_doorsTo_28 (by decide) ?_
          exact ih y2 v39 z38 H locs ls h hP hD hS (lv_sub hl [1, 2, 3, 0] rfl)
  refine gv_iconst F dX4_doorsTo_0 ?_
  refine lv_istore_n (lv' := [(3, .int (iI 0)), (0, .ref (ad 0)), (1, .ref b), (2, .int (iI x2))]) F.1 F.2.1 dX4_doorsTo_1 rfl hl (by decide) rfl (fun ls hl => ?_)
  obtain ⟨n40, h⟩ := h
  exact L2 n40 x2 0 fa H locs ls h hP hD hS (lv_sub hl [1, 2, 3, 0] rfl)
abbrev rX4_onward : Room := { frames := 1, cells := 0, slots := 0, locals := 25 }
set_option maxHeartbeats 4000000 in
set_option maxRecDepth 20000 in
theorem c_X4_onward (l : Launch) (D : va_G) (cy : ClassId) (ad : Nat → Nat) (b : Nat) (o : AR) (fa : AR) (r : AR) (x2 x3 : Int) (Q : Int → AR → Prop) (h : wX4_onward fa r x2 x3 Q) : MetI l yX4_onward (wT yX4_onward cX4_onward 5 (some .int)) rX4_onward D cy [.ref (ad 0), .ref b, .int (iI x2), .int (iI x3)] (wMf cy ad b o fa r) (fun u : AR => wMf cy ad b o u r) (fun r u => Q r u) := by
  refine gI_I (by decide) (Nat.le_of_ble_eq_true rfl) ?_
  intro p e s m args below meth c A Qg F hK hA ret H locs ls hl hP hD hS
  have F : CallFix p m c cX4_onward 5 s args gT RX4 := F
  have hl : lv_has ls 5 [(0, .ref (ad 0)), (1, .ref b), (2, .int (iI x2)), (3, .int (iI x3))] := hl
  have L22 : ∀ (n : Nat) (y2 : Int) (y4 : Int) (fa : AR) (H : Heap) (locs : List Loc) (ls : Array Slot), wX4_onward_22 r Q n y2 y4 fa → va_P D vwCl (wMf cy ad b o fa r) H → va_D A (wMf cy ad b o fa r) → va_S A s.heap H locs → lv_has ls 5 [(0, .ref (ad 0)), (1, .ref b), (2, .int (iI y2)), (4, .int (iI y4))] → W p l e rX4_onward s m args below meth c H locs 0 0 Qg (F0 m 22 ls []) := by
    intro  n
    induction n with
    | zero => intro _ _ _ _ _ _ h; exact h.elim
    | succ n ih =>
      intro y2 y4 fa H locs ls h hP hD hS hl
      rw [wX4_onward_22_s] at h
      refine lv_iload F.1 F.2.1 dX4_onward_22 (lv_at hl 3 rfl) ?_
      refine gv_bipush F ⟨by decide, by decide⟩ dX4_onward_24 ?_
      obtain ⟨g1, h⟩ := h
      refine gv_icmp_ge (tgt := 70) F g1 ⟨by decide, by decide⟩ dX4_onward_26 (by decide) (fun c2 => ?_) (fun c2 => ?_)
      · have h := h.1 c2
        refine lv_iload_n F.1 F.2.1 dX4_onward_70 rfl (lv_at hl 2 rfl) ?_
        exact ret y2 fa H locs 71 ls h rfl hP hD hS dX4_onward_71
      · have h := h.2 c2
        refine lv_aload_n F.1 F.2.1 dX4_onward_29 rfl (lv_at hl 1 rfl) ?_
        refine gv_iconst F dX4_onward_30 ?_
        refine lv_iload_n F.1 F.2.1 dX4_onward_31 rfl (lv_at hl 2 rfl) ?_
        refine gv_iadd F dX4_onward_32 ?_
        obtain ⟨g3, h⟩ := h
        refine gv_iald (n := 147) (g := r) F hK hP 2 rfl rfl (by decide) g3 dX4_onward_33 ?_
        refine lv_iload F.1 F.2.1 dX4_onward_34 (lv_at hl 3 rfl) ?_
        obtain ⟨g4, h⟩ := h
        obtain ⟨g5, h⟩ := h
        refine gv_ishr F g4 g5 dX4_onward_36 ?_
        refine gv_iconst F dX4_onward_37 ?_
        refine gv_iand F 1 (by decide) (by decide) dX4_onward_38 ?_
        refine gv_iconst F dX4_onward_39 ?_
        obtain ⟨g6, h⟩ := h
        refine gv_icmp_ne (tgt := 64) F g6 ⟨by decide, by decide⟩ dX4_onward_40 (by decide) (fun c7 => ?_) (fun c7 => ?_)
        · have h := h.1 c7
          obtain ⟨v8, ev8⟩ : ∃ z : Int, z = y4 + 1 := ⟨_, rfl⟩
          have h := h v8 ev8
          refine gv_iinc (lv' := [(4, .int (iI v8)), (0, .ref (ad 0)), (1, .ref b), (2, .int (iI y2))]) F dX4_onward_64 hl (k := 3) rfl ev8 (by decide) rfl (fun ls hl => ?_)
          refine lv_goto (tgt := 22) F.1 F.2.1 dX4_onward_67 (by decide) ?_
          exact ih y2 v8 fa H locs ls h hP hD hS (lv_sub hl [1, 2, 3, 0] rfl)
        · have h := h.2 c7
          refine lv_aload_n F.1 F.2.1 dX4_onward_43 rfl (lv_at hl 0 rfl) ?_
          refine gv_get F hin4 hK hP 0 rfl rfl 10 (by decide) k766 rfl dX4_onward_44 ?_
          refine lv_iload F.1 F.2.1 dX4_onward_47 (lv_at hl 3 rfl) ?_
          obtain ⟨g9, h⟩ := h
          refine gv_iald (n := 7) (g := fa) F hK hP 1 rfl rfl (by decide) g9 dX4_onward_49 ?_
          refine lv_aload_n F.1 F.2.1 dX4_onward_50 rfl (lv_at hl 0 rfl) ?_
          refine gv_get F hin4 hK hP 0 rfl rfl 10 (by decide) k766 rfl dX4_onward_51 ?_
          refine lv_iload_n F.1 F.2.1 dX4_onward_54 rfl (lv_at hl 2 rfl) ?_
          obtain ⟨g10, h⟩ := h
          refine gv_iald (n := 7) (g := fa) F hK hP 1 rfl rfl (by decide) g10 dX4_onward_55 ?_
          refine gv_iconst F dX4_onward_56 ?_
          refine gv_isub F dX4_onward_57 ?_
          obtain ⟨g11, h⟩ := h
          obtain ⟨g12, h⟩ := h
          refine gv_icmp_ne (tgt := 64) F g11 g12 dX4_onward_58 (by decide) (fun c13 => ?_) (fun c13 => ?_)
          · have h := h.1 c13
            obtain ⟨v14, ev14⟩ : ∃ z : Int, z = y4 + 1 := ⟨_, rfl⟩
            have h := h v14 ev14
            refine gv_iinc (lv' := [(4, .int (iI v14)), (0, .ref (ad 0)), (1, .ref b), (2, .int (iI y2))]) F dX4_onward_64 hl (k := 3) rfl ev14 (by decide) rfl (fun ls hl => ?_)
            refine lv_goto (tgt := 22) F.1 F.2.1 dX4_onward_67 (by decide) ?_
            exact ih y2 v14 fa H locs ls h hP hD hS (lv_sub hl [1, 2, 3, 0] rfl)
          · have h := h.2 c13
            refine lv_iload F.1 F.2.1 dX4_onward_61 (lv_at hl 3 rfl) ?_
            exact ret y4 fa H locs 63 ls h rfl hP hD hS dX4_onward_63
  refine lv_aload_n F.1 F.2.1 dX4_onward_0 rfl (lv_at hl 0 rfl) ?_
  refine lv_aload_n F.1 F.2.1 dX4_onward_1 rfl (lv_at hl 1 rfl) ?_
  refine lv_iload_n F.1 F.2.1 dX4_onward_2 rfl (lv_at hl 3 rfl) ?_
  refine gc_VV (As := [.ref b, .int (iI x3)]) (wn := fun u : AR => wMf cy ad b o u r) F hK hA hP hD hS hP hD (fun u H1 _ h1 h2 => ⟨h1, h2⟩) (c_X4_doorsTo l D cy ad b o fa r x3 _ h) (cwV 2 F.2.2.2.2 (gG_V k892 k894 k47 k67 k895) rfl rfl rfl hd_X4_doorsTo ⟨Nat.le_of_ble_eq_true rfl, Nat.le_of_ble_eq_true rfl⟩) rfl rfl dX4_onward_3 rfl rfl hl.1 (Nat.le_of_ble_eq_true rfl) ⟨Nat.le_of_ble_eq_true rfl, Nat.le_of_ble_eq_true rfl⟩ (fun z15 H locs h hP hD hS => ?_)
  try dsimp only at h hP hD
  refine lv_aload_n F.1 F.2.1 dX4_onward_6 rfl (lv_at hl 0 rfl) ?_
  refine gv_get F hin4 hK hP 0 rfl rfl 10 (by decide) k766 rfl dX4_onward_7 ?_
  refine lv_iload_n F.1 F.2.1 dX4_onward_10 rfl (lv_at hl 2 rfl) ?_
  obtain ⟨g16, h⟩ := h
  refine gv_iald (n := 7) (g := z15) F hK hP 1 rfl rfl (by decide) g16 dX4_onward_11 ?_
  refine gv_ldc (n := 1000000000) F k896 rfl dX4_onward_12 ?_
  obtain ⟨g17, h⟩ := h
  refine gv_icmp_ne (tgt := 19) F g17 ⟨by decide, by decide⟩ dX4_onward_14 (by decide) (fun c18 => ?_) (fun c18 => ?_)
  · have h := h.1 c18
    refine gv_iconst F dX4_onward_19 ?_
    refine lv_istore (lv' := [(4, .int (iI 0)), (0, .ref (ad 0)), (1, .ref b), (2, .int (iI x2)), (3, .int (iI x3))]) F.1 F.2.1 dX4_onward_20 hl (by decide) rfl (fun ls hl => ?_)
    obtain ⟨n19, h⟩ := h
    exact L22 n19 x2 0 z15 H locs ls h hP hD hS (lv_sub hl [1, 2, 3, 0] rfl)
  · have h := h.2 c18
    refine lv_iload_n F.1 F.2.1 dX4_onward_17 rfl (lv_at hl 2 rfl) ?_
    exact ret x2 z15 H locs 18 ls h rfl hP hD hS dX4_onward_18
abbrev rX4_doors : Room := { frames := 1, cells := 0, slots := 0, locals := 25 }
set_option maxHeartbeats 4000000 in
set_option maxRecDepth 20000 in
theorem c_X4_doors (l : Launch) (D : va_G) (cy : ClassId) (ad : Nat → Nat) (b : Nat) (o : AR) (fa : AR) (r : AR) (x2 x3 : Int) (Q : Int → AR → Prop) (h : wX4_doors fa r x2 x3 Q) : MetI l yX4_doors (wT yX4_doors cX4_doors 4 (some .int)) rX4_doors D cy [.ref (ad 0), .ref b, .int (iI x2), .int (iI x3)] (wMf cy ad b o fa r) (fun u : AR => wMf cy ad b o u r) (fun r u => Q r u) := by
  refine gI_I (by decide) (Nat.le_of_ble_eq_true rfl) ?_
  intro p e s m args below meth c A Qg F hK hA ret H locs ls hl hP hD hS
  have F : CallFix p m c cX4_doors 4 s args gT RX4 := F
  have hl : lv_has ls 4 [(0, .ref (ad 0)), (1, .ref b), (2, .int (iI x2)), (3, .int (iI x3))] := hl
  refine lv_aload_n F.1 F.2.1 dX4_doors_0 rfl (lv_at hl 0 rfl) ?_
  refine lv_aload_n F.1 F.2.1 dX4_doors_1 rfl (lv_at hl 1 rfl) ?_
  refine lv_iload_n F.1 F.2.1 dX4_doors_2 rfl (lv_at hl 3 rfl) ?_
  refine gc_VV (As := [.ref b, .int (iI x3)]) (wn := fun u : AR => wMf cy ad b o u r) F hK hA hP hD hS hP hD (fun u H1 _ h1 h2 => ⟨h1, h2⟩) (c_X4_doorsTo l D cy ad b o fa r x3 _ h) (cwV 2 F.2.2.2.2 (gG_V k892 k894 k47 k67 k895) rfl rfl rfl hd_X4_doorsTo ⟨Nat.le_of_ble_eq_true rfl, Nat.le_of_ble_eq_true rfl⟩) rfl rfl dX4_doors_3 rfl rfl hl.1 (Nat.le_of_ble_eq_true rfl) ⟨Nat.le_of_ble_eq_true rfl, Nat.le_of_ble_eq_true rfl⟩ (fun z1 H locs h hP hD hS => ?_)
  try dsimp only at h hP hD
  refine lv_aload_n F.1 F.2.1 dX4_doors_6 rfl (lv_at hl 0 rfl) ?_
  refine gv_get F hin4 hK hP 0 rfl rfl 10 (by decide) k766 rfl dX4_doors_7 ?_
  refine lv_iload_n F.1 F.2.1 dX4_doors_10 rfl (lv_at hl 2 rfl) ?_
  obtain ⟨g2, h⟩ := h
  refine gv_iald (n := 7) (g := z1) F hK hP 1 rfl rfl (by decide) g2 dX4_doors_11 ?_
  refine gv_ldc (n := 1000000000) F k896 rfl dX4_doors_12 ?_
  obtain ⟨g3, h⟩ := h
  refine gv_icmp_ne (tgt := 22) F g3 ⟨by decide, by decide⟩ dX4_doors_14 (by decide) (fun c4 => ?_) (fun c4 => ?_)
  · have h := h.1 c4
    refine lv_aload_n F.1 F.2.1 dX4_doors_22 rfl (lv_at hl 0 rfl) ?_
    refine gv_get F hin4 hK hP 0 rfl rfl 10 (by decide) k766 rfl dX4_doors_23 ?_
    refine lv_iload_n F.1 F.2.1 dX4_doors_26 rfl (lv_at hl 2 rfl) ?_
    obtain ⟨g5, h⟩ := h
    refine gv_iald (n := 7) (g := z1) F hK hP 1 rfl rfl (by decide) g5 dX4_doors_27 ?_
    exact ret (z1 x2) z1 H locs 28 ls h rfl hP hD hS dX4_doors_28
  · have h := h.2 c4
    refine gv_bipush F ⟨by decide, by decide⟩ dX4_doors_17 ?_
    refine lv_goto (tgt := 28) F.1 F.2.1 dX4_doors_19 (by decide) ?_
    exact ret (-9) z1 H locs 28 ls h rfl hP hD hS dX4_doors_28
abbrev rX4_minutesOf : Room := { frames := 1, cells := 0, slots := 0, locals := 21 }
set_option maxHeartbeats 4000000 in
set_option maxRecDepth 20000 in
theorem c_X4_minutesOf (l : Launch) (D : va_G) (cy : ClassId) (a : Nat) (r : AR) (x1 : Int) (Q : Int → Prop) (h : wX4_minutesOf r x1 Q) : MetR l yX4_minutesOf (wT yX4_minutesOf cX4_minutesOf 2 (some .int)) rX4_minutesOf D cy [.ref a, .int (iI x1)] (wAr cy a 147 r) Q := by
  refine gI_R (by decide) (Nat.le_of_ble_eq_true rfl) ?_
  intro p e s m args below meth c A Qg F hK hA ret H locs ls hl hP hS
  have F : CallFix p m c cX4_minutesOf 2 s args gT RX4 := F
  have hl : lv_has ls 2 [(0, .ref a), (1, .int (iI x1))] := hl
  refine lv_aload_n F.1 F.2.1 dX4_minutesOf_0 rfl (lv_at hl 0 rfl) ?_
  refine lv_iload_n F.1 F.2.1 dX4_minutesOf_1 rfl (lv_at hl 1 rfl) ?_
  refine gv_iconst F dX4_minutesOf_2 ?_
  refine gc_SR (As := [.int (iI x1), .int (iI 0)]) F hK hA hP hS gPnil (c_X4_ask l D cy x1 0 _ h) (cwS 2 F.2.2.2.2 (gG_S k856 k857 k67 k858) rfl rfl rfl hd_X4_ask ⟨Nat.le_of_ble_eq_true rfl, Nat.le_of_ble_eq_true rfl⟩) dX4_minutesOf_3 rfl rfl hl.1 (Nat.le_of_ble_eq_true rfl) ⟨Nat.le_of_ble_eq_true rfl, Nat.le_of_ble_eq_true rfl⟩ (fun u1 H locs h hP hS => ?_)
  obtain ⟨g2, h⟩ := h
  refine gv_iald (n := 147) (g := r) F hK hP 0 rfl rfl (by decide) g2 dX4_minutesOf_6 ?_
  obtain ⟨g3, h⟩ := h
  by_cases c4 : (r u1) = 1
  · have h := h.1 c4
    refine gv_tableIn (tgt := 40) (off := 33) F g3 c4 (by decide) (by decide) dX4_minutesOf_7 rfl (by decide) ?_
    refine gv_iconst F dX4_minutesOf_40 ?_
    refine lv_aload_n F.1 F.2.1 dX4_minutesOf_41 rfl (lv_at hl 0 rfl) ?_
    refine lv_iload_n F.1 F.2.1 dX4_minutesOf_42 rfl (lv_at hl 1 rfl) ?_
    refine gv_iconst F dX4_minutesOf_43 ?_
    refine gc_SR (As := [.int (iI x1), .int (iI 1)]) F hK hA hP hS gPnil (c_X4_ask l D cy x1 1 _ h) (cwS 2 F.2.2.2.2 (gG_S k856 k857 k67 k858) rfl rfl rfl hd_X4_ask ⟨Nat.le_of_ble_eq_true rfl, Nat.le_of_ble_eq_true rfl⟩) dX4_minutesOf_44 rfl rfl hl.1 (Nat.le_of_ble_eq_true rfl) ⟨Nat.le_of_ble_eq_true rfl, Nat.le_of_ble_eq_true rfl⟩ (fun u5 H locs h hP hS => ?_)
    obtain ⟨g6, h⟩ := h
    refine gv_iald (n := 147) (g := r) F hK hP 0 rfl rfl (by decide) g6 dX4_minutesOf_47 ?_
    refine gv_iadd F dX4_minutesOf_48 ?_
    exact ret (1 + (r u5)) H locs 49 ls h rfl hS dX4_minutesOf_49
  by_cases c7 : (r u1) = 2
  · have h := h.2.1 c7
    refine gv_tableIn (tgt := 54) (off := 47) F g3 c7 (by decide) (by decide) dX4_minutesOf_7 rfl (by decide) ?_
    refine gv_iconst F dX4_minutesOf_54 ?_
    exact ret 1 H locs 55 ls h rfl hS dX4_minutesOf_55
  by_cases c8 : (r u1) = 3
  · have h := h.2.2.1 c8
    refine gv_tableIn (tgt := 50) (off := 43) F g3 c8 (by decide) (by decide) dX4_minutesOf_7 rfl (by decide) ?_
    refine gv_iconst F dX4_minutesOf_50 ?_
    exact ret 2 H locs 51 ls h rfl hS dX4_minutesOf_51
  by_cases c9 : (r u1) = 4
  · have h := h.2.2.2.1 c9
    refine gv_tableIn (tgt := 40) (off := 33) F g3 c9 (by decide) (by decide) dX4_minutesOf_7 rfl (by decide) ?_
    refine gv_iconst F dX4_minutesOf_40 ?_
    refine lv_aload_n F.1 F.2.1 dX4_minutesOf_41 rfl (lv_at hl 0 rfl) ?_
    refine lv_iload_n F.1 F.2.1 dX4_minutesOf_42 rfl (lv_at hl 1 rfl) ?_
    refine gv_iconst F dX4_minutesOf_43 ?_
    refine gc_SR (As := [.int (iI x1), .int (iI 1)]) F hK hA hP hS gPnil (c_X4_ask l D cy x1 1 _ h) (cwS 2 F.2.2.2.2 (gG_S k856 k857 k67 k858) rfl rfl rfl hd_X4_ask ⟨Nat.le_of_ble_eq_true rfl, Nat.le_of_ble_eq_true rfl⟩) dX4_minutesOf_44 rfl rfl hl.1 (Nat.le_of_ble_eq_true rfl) ⟨Nat.le_of_ble_eq_true rfl, Nat.le_of_ble_eq_true rfl⟩ (fun u10 H locs h hP hS => ?_)
    obtain ⟨g11, h⟩ := h
    refine gv_iald (n := 147) (g := r) F hK hP 0 rfl rfl (by decide) g11 dX4_minutesOf_47 ?_
    refine gv_iadd F dX4_minutesOf_48 ?_
    exact ret (1 + (r u10)) H locs 49 ls h rfl hS dX4_minutesOf_49
  by_cases c12 : (r u1) = 5
  · have h := h.2.2.2.2.1 c12
    refine gv_tableIn (tgt := 52) (off := 45) F g3 c12 (by decide) (by decide) dX4_minutesOf_7 rfl (by decide) ?_
    refine gv_iconst F dX4_minutesOf_52 ?_
    exact ret 3 H locs 53 ls h rfl hS dX4_minutesOf_53
  have cd : (r u1) < 1 ∨ 5 < (r u1) := by omega
  have h := h.2.2.2.2.2 cd
  refine gv_tableOut (tgt := 54) F g3 cd dX4_minutesOf_7 (by decide) ?_
  refine gv_iconst F dX4_minutesOf_54 ?_
  exact ret 1 H locs 55 ls h rfl hS dX4_minutesOf_55
abbrev rX4_nextOf : Room := { frames := 1, cells := 0, slots := 0, locals := 21 }
set_option maxHeartbeats 4000000 in
set_option maxRecDepth 20000 in
theorem c_X4_nextOf (l : Launch) (D : va_G) (cy : ClassId) (a : Nat) (r : AR) (x1 : Int) (Q : Int → Prop) (h : wX4_nextOf r x1 Q) : MetR l yX4_nextOf (wT yX4_nextOf cX4_nextOf 4 (some .int)) rX4_nextOf D cy [.ref a, .int (iI x1)] (wAr cy a 147 r) Q := by
  refine gI_R (by decide) (Nat.le_of_ble_eq_true rfl) ?_
  intro p e s m args below meth c A Qg F hK hA ret H locs ls hl hP hS
  have F : CallFix p m c cX4_nextOf 4 s args gT RX4 := F
  have hl : lv_has ls 4 [(0, .ref a), (1, .int (iI x1))] := hl
  have L2 : ∀ (n : Nat) (y1 : Int) (y2 : Int) (H : Heap) (locs : List Loc) (ls : Array Slot), wX4_nextOf_2 r Q n y1 y2 → va_P D vwCl (wAr cy a 147 r) H → va_S A s.heap H locs → lv_has ls 4 [(0, .ref a), (1, .int (iI y1)), (2, .int (iI y2))] → W p l e rX4_nextOf s m args below meth c H locs 0 0 Qg (F0 m 2 ls []) := by
    intro  n
    induction n with
    | zero => intro _ _ _ _ _ h; exact h.elim
    | succ n ih =>
      intro y1 y2 H locs ls h hP hS hl
      rw [wX4_nextOf_2_s] at h
      refine lv_iload_n F.1 F.2.1 dX4_nextOf_2 rfl (lv_at hl 2 rfl) ?_
      refine lv_aload_n F.1 F.2.1 dX4_nextOf_3 rfl (lv_at hl 0 rfl) ?_
      refine gv_iconst F dX4_nextOf_4 ?_
      refine gv_iald (n := 147) (g := r) F hK hP 0 rfl rfl (by decide) ⟨by decide, by decide⟩ dX4_nextOf_5 ?_
      obtain ⟨g1, h⟩ := h
      obtain ⟨g2, h⟩ := h
      refine gv_icmp_ge (tgt := 41) F g1 g2 dX4_nextOf_6 (by decide) (fun c3 => ?_) (fun c3 => ?_)
      · have h := h.1 c3
        refine gv_bipush F ⟨by decide, by decide⟩ dX4_nextOf_41 ?_
        exact ret (-9) H locs 43 ls h rfl hS dX4_nextOf_43
      · have h := h.2 c3
        refine lv_aload_n F.1 F.2.1 dX4_nextOf_9 rfl (lv_at hl 0 rfl) ?_
        refine lv_iload_n F.1 F.2.1 dX4_nextOf_10 rfl (lv_at hl 1 rfl) ?_
        refine gv_iconst F dX4_nextOf_11 ?_
        refine gc_SR (As := [.int (iI y1), .int (iI 2)]) F hK hA hP hS gPnil (c_X4_of l D cy y1 2 _ h) (cwS 2 F.2.2.2.2 (gG_S k862 k863 k67 k864) rfl rfl rfl hd_X4_of ⟨Nat.le_of_ble_eq_true rfl, Nat.le_of_ble_eq_true rfl⟩) dX4_nextOf_12 rfl rfl hl.1 (Nat.le_of_ble_eq_true rfl) ⟨Nat.le_of_ble_eq_true rfl, Nat.le_of_ble_eq_true rfl⟩ (fun u4 H locs h hP hS => ?_)
        obtain ⟨g5, h⟩ := h
        refine gv_iald (n := 147) (g := r) F hK hP 0 rfl rfl (by decide) g5 dX4_nextOf_15 ?_
        refine lv_iload_n F.1 F.2.1 dX4_nextOf_16 rfl (lv_at hl 2 rfl) ?_
        refine gv_iadd F dX4_nextOf_17 ?_
        refine lv_aload_n F.1 F.2.1 dX4_nextOf_18 rfl (lv_at hl 0 rfl) ?_
        refine gv_iconst F dX4_nextOf_19 ?_
        refine gv_iald (n := 147) (g := r) F hK hP 0 rfl rfl (by decide) ⟨by decide, by decide⟩ dX4_nextOf_20 ?_
        obtain ⟨g6, h⟩ := h
        refine gv_irem F g6 dX4_nextOf_21 ?_
        refine gv_name (fun v7 ev7 => ?_)
        have h := h v7 ev7
        refine lv_istore_n (lv' := [(3, .int (iI v7)), (0, .ref a), (1, .int (iI y1)), (2, .int (iI y2))]) F.1 F.2.1 dX4_nextOf_22 rfl hl (by decide) rfl (fun ls hl => ?_)
        refine lv_aload_n F.1 F.2.1 dX4_nextOf_23 rfl (lv_at hl 1 rfl) ?_
        refine lv_iload_n F.1 F.2.1 dX4_nextOf_24 rfl (lv_at hl 2 rfl) ?_
        refine lv_iload_n F.1 F.2.1 dX4_nextOf_25 rfl (lv_at hl 0 rfl) ?_
        refine gc_SR (As := [.int (iI y1), .int (iI v7)]) F hK hA hP hS gPnil (c_X4_sheetOf l D cy y1 v7 _ h) (cwS 2 F.2.2.2.2 (gG_S k859 k860 k67 k861) rfl rfl rfl hd_X4_sheetOf ⟨Nat.le_of_ble_eq_true rfl, Nat.le_of_ble_eq_true rfl⟩) dX4_nextOf_26 rfl rfl hl.1 (Nat.le_of_ble_eq_true rfl) ⟨Nat.le_of_ble_eq_true rfl, Nat.le_of_ble_eq_true rfl⟩ (fun u8 H locs h hP hS => ?_)
        obtain ⟨g9, h⟩ := h
        refine gv_iald (n := 147) (g := r) F hK hP 0 rfl rfl (by decide) g9 dX4_nextOf_29 ?_
        obtain ⟨g10, h⟩ := h
        refine gv_if_ge (tgt := 35) F g10 dX4_nextOf_30 (by decide) (fun c11 => ?_) (fun c11 => ?_)
        · have h := h.1 c11
          obtain ⟨v12, ev12⟩ : ∃ z : Int, z = y2 + 1 := ⟨_, rfl⟩
          have h := h v12 ev12
          refine gv_iinc (lv' := [(2, .int (iI v12)), (3, .int (iI v7)), (0, .ref a), (1, .int (iI y1))]) F dX4_nextOf_35 hl (k := 3) rfl ev12 (by decide) rfl (fun ls hl => ?_)
          refine lv_goto (tgt := 2) F.1 F.2.1 dX4_nextOf_38 (by decide) ?_
          exact ih y1 v12 H locs ls h hP hS (lv_sub hl [2, 3, 0] rfl)
        · have h := h.2 c11
          refine lv_iload_n F.1 F.2.1 dX4_nextOf_33 rfl (lv_at hl 0 rfl) ?_
          exact ret v7 H locs 34 ls h rfl hS dX4_nextOf_34
  refine gv_iconst F dX4_nextOf_0 ?_
  refine lv_istore_n (lv' := [(2, .int (iI 0)), (0, .ref a), (1, .int (iI x1))]) F.1 F.2.1 dX4_nextOf_1 rfl hl (by decide) rfl (fun ls hl => ?_)
  obtain ⟨n13, h⟩ := h
  exact L2 n13 x1 0 H locs ls h hP hS (lv_sub hl [1, 2, 0] rfl)
abbrev rX4_other : Room := { frames := 1, cells := 0, slots := 0, locals := 21 }
set_option maxHeartbeats 4000000 in
set_option maxRecDepth 20000 in
theorem c_X4_other (l : Launch) (D : va_G) (cy : ClassId) (a : Nat) (r : AR) (x1 x2 : Int) (Q : Int → Prop) (h : wX4_other r x1 x2 Q) : MetR l yX4_other (wT yX4_other cX4_other 4 (some .int)) rX4_other D cy [.ref a, .int (iI x1), .int (iI x2)] (wAr cy a 147 r) Q := by
  refine gI_R (by decide) (Nat.le_of_ble_eq_true rfl) ?_
  intro p e s m args below meth c A Qg F hK hA ret H locs ls hl hP hS
  have F : CallFix p m c cX4_other 4 s args gT RX4 := F
  have hl : lv_has ls 4 [(0, .ref a), (1, .int (iI x1)), (2, .int (iI x2))] := hl
  have L2 : ∀ (n : Nat) (y1 : Int) (y2 : Int) (y3 : Int) (H : Heap) (locs : List Loc) (ls : Array Slot), wX4_other_2 r Q n y1 y2 y3 → va_P D vwCl (wAr cy a 147 r) H → va_S A s.heap H locs → lv_has ls 4 [(0, .ref a), (1, .int (iI y1)), (2, .int (iI y2)), (3, .int (iI y3))] → W p l e rX4_other s m args below meth c H locs 0 0 Qg (F0 m 2 ls []) := by
    intro  n
    induction n with
    | zero => intro _ _ _ _ _ _ h; exact h.elim
    | succ n ih =>
      intro y1 y2 y3 H locs ls h hP hS hl
      rw [wX4_other_2_s] at h
      refine lv_iload_n F.1 F.2.1 dX4_other_2 rfl (lv_at hl 3 rfl) ?_
      refine lv_aload_n F.1 F.2.1 dX4_other_3 rfl (lv_at hl 0 rfl) ?_
      refine gv_iconst F dX4_other_4 ?_
      refine gv_iald (n := 147) (g := r) F hK hP 0 rfl rfl (by decide) ⟨by decide, by decide⟩ dX4_other_5 ?_
      obtain ⟨g1, h⟩ := h
      obtain ⟨g2, h⟩ := h
      refine gv_icmp_ge (tgt := 49) F g1 g2 dX4_other_6 (by decide) (fun c3 => ?_) (fun c3 => ?_)
      · have h := h.1 c3
        refine gv_bipush F ⟨by decide, by decide⟩ dX4_other_49 ?_
        exact ret (-9) H locs 51 ls h rfl hS dX4_other_51
      · have h := h.2 c3
        refine lv_iload_n F.1 F.2.1 dX4_other_9 rfl (lv_at hl 3 rfl) ?_
        refine lv_iload_n F.1 F.2.1 dX4_other_10 rfl (lv_at hl 1 rfl) ?_
        obtain ⟨g4, h⟩ := h
        refine gv_icmp_eq (tgt := 43) F g1 g4 dX4_other_11 (by decide) (fun c5 => ?_) (fun c5 => ?_)
        · have h := h.1 c5
          obtain ⟨v6, ev6⟩ : ∃ z : Int, z = y3 + 1 := ⟨_, rfl⟩
          have h := h v6 ev6
          refine gv_iinc (lv' := [(3, .int (iI v6)), (0, .ref a), (1, .int (iI y1)), (2, .int (iI y2))]) F dX4_other_43 hl (k := 3) rfl ev6 (by decide) rfl (fun ls hl => ?_)
          refine lv_goto (tgt := 2) F.1 F.2.1 dX4_other_46 (by decide) ?_
          exact ih y1 y2 v6 H locs ls h hP hS (lv_sub hl [1, 2, 3, 0] rfl)
        · have h := h.2 c5
          refine lv_aload_n F.1 F.2.1 dX4_other_14 rfl (lv_at hl 0 rfl) ?_
          refine lv_iload_n F.1 F.2.1 dX4_other_15 rfl (lv_at hl 3 rfl) ?_
          refine gv_iconst F dX4_other_16 ?_
          refine gc_SR (As := [.int (iI y3), .int (iI 3)]) F hK hA hP hS gPnil (c_X4_of l D cy y3 3 _ h) (cwS 2 F.2.2.2.2 (gG_S k862 k863 k67 k864) rfl rfl rfl hd_X4_of ⟨Nat.le_of_ble_eq_true rfl, Nat.le_of_ble_eq_true rfl⟩) dX4_other_17 rfl rfl hl.1 (Nat.le_of_ble_eq_true rfl) ⟨Nat.le_of_ble_eq_true rfl, Nat.le_of_ble_eq_true rfl⟩ (fun u7 H locs h hP hS => ?_)
          obtain ⟨g8, h⟩ := h
          refine gv_iald (n := 147) (g := r) F hK hP 0 rfl rfl (by decide) g8 dX4_other_20 ?_
          refine lv_aload_n F.1 F.2.1 dX4_other_21 rfl (lv_at hl 0 rfl) ?_
          refine lv_iload_n F.1 F.2.1 dX4_other_22 rfl (lv_at hl 1 rfl) ?_
          refine gv_iconst F dX4_other_23 ?_
          refine gc_SR (As := [.int (iI y1), .int (iI 3)]) F hK hA hP hS gPnil (c_X4_of l D cy y1 3 _ h) (cwS 2 F.2.2.2.2 (gG_S k862 k863 k67 k864) rfl rfl rfl hd_X4_of ⟨Nat.le_of_ble_eq_true rfl, Nat.le_of_ble_eq_true rfl⟩) dX4_other_24 rfl rfl hl.1 (Nat.le_of_ble_eq_true rfl) ⟨Nat.le_of_ble_eq_true rfl, Nat.le_of_ble_eq_true rfl⟩ (fun u9 H locs h hP hS => ?_)
          obtain ⟨g10, h⟩ := h
          refine gv_iald (n := 147) (g := r) F hK hP 0 rfl rfl (by decide) g10 dX4_other_27 ?_
          obtain ⟨g11, h⟩ := h
          obtain ⟨g12, h⟩ := h
          refine gv_icmp_ne (tgt := 43) F g11 g12 dX4_other_28 (by decide) (fun c13 => ?_) (fun c13 => ?_)
          · have h := h.1 c13
            obtain ⟨v14, ev14⟩ : ∃ z : Int, z = y3 + 1 := ⟨_, rfl⟩
            have h := h v14 ev14
            refine gv_iinc (lv' := [(3, .int (iI v14)), (0, .ref a), (1, .int (iI y1)), (2, .int (iI y2))]) F dX4_other_43 hl (k := 3) rfl ev14 (by decide) rfl (fun ls hl => ?_)
            refine lv_goto (tgt := 2) F.1 F.2.1 dX4_other_46 (by decide) ?_
            exact ih y1 y2 v14 H locs ls h hP hS (lv_sub hl [1, 2, 3, 0] rfl)
          · have h := h.2 c13
            refine lv_aload_n F.1 F.2.1 dX4_other_31 rfl (lv_at hl 0 rfl) ?_
            refine lv_iload_n F.1 F.2.1 dX4_other_32 rfl (lv_at hl 3 rfl) ?_
            refine lv_iload_n F.1 F.2.1 dX4_other_33 rfl (lv_at hl 2 rfl) ?_
            refine gc_SR (As := [.int (iI y3), .int (iI y2)]) F hK hA hP hS gPnil (c_X4_sheetOf l D cy y3 y2 _ h) (cwS 2 F.2.2.2.2 (gG_S k859 k860 k67 k861) rfl rfl rfl hd_X4_sheetOf ⟨Nat.le_of_ble_eq_true rfl, Nat.le_of_ble_eq_true rfl⟩) dX4_other_34 rfl rfl hl.1 (Nat.le_of_ble_eq_true rfl) ⟨Nat.le_of_ble_eq_true rfl, Nat.le_of_ble_eq_true rfl⟩ (fun u15 H locs h hP hS => ?_)
            obtain ⟨g16, h⟩ := h
            refine gv_iald (n := 147) (g := r) F hK hP 0 rfl rfl (by decide) g16 dX4_other_37 ?_
            obtain ⟨g17, h⟩ := h
            refine gv_if_lt (tgt := 43) F g17 dX4_other_38 (by decide) (fun c18 => ?_) (fun c18 => ?_)
            · have h := h.1 c18
              obtain ⟨v19, ev19⟩ : ∃ z : Int, z = y3 + 1 := ⟨_, rfl⟩
              have h := h v19 ev19
              refine gv_iinc (lv' := [(3, .int (iI v19)), (0, .ref a), (1, .int (iI y1)), (2, .int (iI y2))]) F dX4_other_43 hl (k := 3) rfl ev19 (by decide) rfl (fun ls hl => ?_)
              refine lv_goto (tgt := 2) F.1 F.2.1 dX4_other_46 (by decide) ?_
              exact ih y1 y2 v19 H locs ls h hP hS (lv_sub hl [1, 2, 3, 0] rfl)
            · have h := h.2 c18
              refine lv_iload_n F.1 F.2.1 dX4_other_41 rfl (lv_at hl 3 rfl) ?_
              exact ret y3 H locs 42 ls h rfl hS dX4_other_42
  refine gv_iconst F dX4_other_0 ?_
  refine lv_istore_n (lv' := [(3, .int (iI 0)), (0, .ref a), (1, .int (iI x1)), (2, .int (iI x2))]) F.1 F.2.1 dX4_other_1 rfl hl (by decide) rfl (fun ls hl => ?_)
  obtain ⟨n20, h⟩ := h
  exact L2 n20 x1 x2 0 H locs ls h hP hS (lv_sub hl [1, 2, 3, 0] rfl)
abbrev rX4_writes : Room := { frames := 2, cells := 0, slots := 0, locals := 44 }
set_option maxHeartbeats 4000000 in
set_option maxRecDepth 20000 in
theorem c_X4_writes (l : Launch) (D : va_G) (cy : ClassId) (a : Nat) (r : AR) (x1 x2 : Int) (Q : AR → Prop) (h : wX4_writes r x1 x2 Q) : MetV l yX4_writes (wT yX4_writes cX4_writes 10 none) rX4_writes D cy [.ref a, .int (iI x1), .int (iI x2)] (wAr cy a 147 r) (fun u : AR => wAr cy a 147 u) (fun u => Q u) := by
  refine gI_V (by decide) (Nat.le_of_ble_eq_true rfl) ?_
  intro p e s m args below meth c A Qg F hK hA ret H locs ls hl hP hD hS
  have F : CallFix p m c cX4_writes 10 s args gT RX4 := F
  have hl : lv_has ls 10 [(0, .ref a), (1, .int (iI x1)), (2, .int (iI x2))] := hl
  have L175 : ∀ (y1 : Int) (y2 : Int) (y8 : Int) (y9 : Int) (r : AR) (H : Heap) (locs : List Loc) (ls : Array Slot), wX4_writes_175 Q y1 y2 y8 y9 r → va_P D vwCl (wAr cy a 147 r) H → va_D A (wAr cy a 147 r) → va_S A s.heap H locs → lv_has ls 10 [(0, .ref a), (1, .int (iI y1)), (2, .int (iI y2)), (8, .int (iI y8)), (9, .int (iI y9))] → W p l e rX4_writes s m args below meth c H locs 0 0 Qg (F0 m 175 ls []) := by
    intro y1 y2 y8 y9 r H locs ls h hP hD hS hl
    refine lv_aload_n F.1 F.2.1 dX4_writes_175 rfl (lv_at hl 0 rfl) ?_
    refine lv_iload_n F.1 F.2.1 dX4_writes_176 rfl (lv_at hl 1 rfl) ?_
    refine lv_iload_n F.1 F.2.1 dX4_writes_177 rfl (lv_at hl 2 rfl) ?_
    refine gc_SR (As := [.int (iI y1), .int (iI y2)]) F hK hA hP hS gPnil (c_X4_sheetOf l D cy y1 y2 _ h) (cwS 2 F.2.2.2.2 (gG_S k859 k860 k67 k861) rfl rfl rfl hd_X4_sheetOf ⟨Nat.le_of_ble_eq_true rfl, Nat.le_of_ble_eq_true rfl⟩) dX4_writes_178 rfl rfl hl.1 (Nat.le_of_ble_eq_true rfl) ⟨Nat.le_of_ble_eq_true rfl, Nat.le_of_ble_eq_true rfl⟩ (fun u1 H locs h hP hS => ?_)
    refine lv_iload F.1 F.2.1 dX4_writes_181 (lv_at hl 4 rfl) ?_
    obtain ⟨g2, h⟩ := h
    obtain ⟨z3, ez3⟩ : ∃ z : AR, z = su r u1 y9 := ⟨_, rfl⟩
    have h := h z3 ez3
    refine gv_iast (n := 147) (g := r) (ws' := wAr cy a 147 z3) F hK hP hD hS 0 rfl rfl (by decide) g2 (by subst ez3; exact rfl) dX4_writes_183 (fun H locs hP hD hS => ?_)
    refine lv_aload_n F.1 F.2.1 dX4_writes_184 rfl (lv_at hl 0 rfl) ?_
    refine lv_iload_n F.1 F.2.1 dX4_writes_185 rfl (lv_at hl 1 rfl) ?_
    refine lv_iload_n F.1 F.2.1 dX4_writes_186 rfl (lv_at hl 2 rfl) ?_
    refine gc_SR (As := [.int (iI y1), .int (iI y2)]) F hK hA hP hS gPnil (c_X4_fromOf l D cy y1 y2 _ h) (cwS 2 F.2.2.2.2 (gG_S k906 k907 k67 k908) rfl rfl rfl hd_X4_fromOf ⟨Nat.le_of_ble_eq_true rfl, Nat.le_of_ble_eq_true rfl⟩) dX4_writes_187 rfl rfl hl.1 (Nat.le_of_ble_eq_true rfl) ⟨Nat.le_of_ble_eq_true rfl, Nat.le_of_ble_eq_true rfl⟩ (fun u4 H locs h hP hS => ?_)
    refine lv_iload F.1 F.2.1 dX4_writes_190 (lv_at hl 3 rfl) ?_
    obtain ⟨g5, h⟩ := h
    obtain ⟨z6, ez6⟩ : ∃ z : AR, z = su z3 u4 y8 := ⟨_, rfl⟩
    have h := h z6 ez6
    refine gv_iast (n := 147) (g := z3) (ws' := wAr cy a 147 z6) F hK hP hD hS 0 rfl rfl (by decide) g5 (by subst ez6; exact rfl) dX4_writes_192 (fun H locs hP hD hS => ?_)
    exact ret z6 H locs 193 ls h hP hD hS dX4_writes_193
  have L143 : ∀ (y1 : Int) (y2 : Int) (y5 : Int) (y6 : Int) (y7 : Int) (t0 : Int) (r : AR) (H : Heap) (locs : List Loc) (ls : Array Slot), wX4_writes_143 Q y1 y2 y5 y6 y7 t0 r → va_P D vwCl (wAr cy a 147 r) H → va_D A (wAr cy a 147 r) → va_S A s.heap H locs → lv_has ls 10 [(0, .ref a), (1, .int (iI y1)), (2, .int (iI y2)), (5, .int (iI y5)), (6, .int (iI y6)), (7, .int (iI y7))] → W p l e rX4_writes s m args below meth c H locs 0 0 Qg (F0 m 143 ls [.int (iI t0)]) := by
    intro y1 y2 y5 y6 y7 t0 r H locs ls h hP hD hS hl
    refine lv_istore (lv' := [(8, .int (iI t0)), (0, .ref a), (1, .int (iI y1)), (2, .int (iI y2)), (5, .int (iI y5)), (6, .int (iI y6)), (7, .int (iI y7))]) F.1 F.2.1 dX4_writes_143 hl (by decide) rfl (fun ls hl => ?_)
    refine lv_iload F.1 F.2.1 dX4_writes_145 (lv_at hl 0 rfl) ?_
    obtain ⟨g7, h⟩ := h
    refine gv_if_lt (tgt := 161) F g7 dX4_writes_147 (by decide) (fun c8 => ?_) (fun c8 => ?_)
    · have h := h.1 c8
      refine lv_iload F.1 F.2.1 dX4_writes_161 (lv_at hl 6 rfl) ?_
      obtain ⟨g9, h⟩ := h
      refine gv_if_eq (tgt := 171) F g9 dX4_writes_163 (by decide) (fun c10 => ?_) (fun c10 => ?_)
      · have h := h.1 c10
        refine lv_iload F.1 F.2.1 dX4_writes_171 (lv_at hl 5 rfl) ?_
        refine lv_istore (lv' := [(9, .int (iI y6)), (8, .int (iI t0)), (0, .ref a), (1, .int (iI y1)), (2, .int (iI y2)), (5, .int (iI y5)), (6, .int (iI y6)), (7, .int (iI y7))]) F.1 F.2.1 dX4_writes_173 hl (by decide) rfl (fun ls hl => ?_)
        exact L175 y1 y2 t0 y6 r H locs ls h hP hD hS (lv_sub hl [2, 3, 4, 1, 0] rfl)
      · have h := h.2 c10
        refine lv_iload F.1 F.2.1 dX4_writes_166 (lv_at hl 4 rfl) ?_
        refine lv_goto (tgt := 173) F.1 F.2.1 dX4_writes_168 (by decide) ?_
        refine lv_istore (lv' := [(9, .int (iI y5)), (8, .int (iI t0)), (0, .ref a), (1, .int (iI y1)), (2, .int (iI y2)), (5, .int (iI y5)), (6, .int (iI y6)), (7, .int (iI y7))]) F.1 F.2.1 dX4_writes_173 hl (by decide) rfl (fun ls hl => ?_)
        exact L175 y1 y2 t0 y5 r H locs ls h hP hD hS (lv_sub hl [2, 3, 4, 1, 0] rfl)
    · have h := h.2 c8
      refine lv_aload_n F.1 F.2.1 dX4_writes_150 rfl (lv_at hl 1 rfl) ?_
      refine lv_iload F.1 F.2.1 dX4_writes_151 (lv_at hl 0 rfl) ?_
      refine lv_iload_n F.1 F.2.1 dX4_writes_153 rfl (lv_at hl 3 rfl) ?_
      refine gc_SR (As := [.int (iI t0), .int (iI y2)]) F hK hA hP hS gPnil (c_X4_sheetOf l D cy t0 y2 _ h) (cwS 2 F.2.2.2.2 (gG_S k859 k860 k67 k861) rfl rfl rfl hd_X4_sheetOf ⟨Nat.le_of_ble_eq_true rfl, Nat.le_of_ble_eq_true rfl⟩) dX4_writes_154 rfl rfl hl.1 (Nat.le_of_ble_eq_true rfl) ⟨Nat.le_of_ble_eq_true rfl, Nat.le_of_ble_eq_true rfl⟩ (fun u11 H locs h hP hS => ?_)
      obtain ⟨g12, h⟩ := h
      refine gv_iald (n := 147) (g := r) F hK hP 0 rfl rfl (by decide) g12 dX4_writes_157 ?_
      refine lv_goto (tgt := 173) F.1 F.2.1 dX4_writes_158 (by decide) ?_
      refine gv_name (fun v13 ev13 => ?_)
      have h := h v13 ev13
      refine lv_istore (lv' := [(9, .int (iI v13)), (8, .int (iI t0)), (0, .ref a), (1, .int (iI y1)), (2, .int (iI y2)), (5, .int (iI y5)), (6, .int (iI y6)), (7, .int (iI y7))]) F.1 F.2.1 dX4_writes_173 hl (by decide) rfl (fun ls hl => ?_)
      exact L175 y1 y2 t0 v13 r H locs ls h hP hD hS (lv_sub hl [2, 3, 4, 1, 0] rfl)
  have L52 : ∀ (y1 : Int) (y2 : Int) (y3 : Int) (y4 : Int) (y5 : Int) (y6 : Int) (t0 : Int) (r : AR) (H : Heap) (locs : List Loc) (ls : Array Slot), wX4_writes_52 Q y1 y2 y3 y4 y5 y6 t0 r → va_P D vwCl (wAr cy a 147 r) H → va_D A (wAr cy a 147 r) → va_S A s.heap H locs → lv_has ls 10 [(0, .ref a), (1, .int (iI y1)), (2, .int (iI y2)), (3, .int (iI y3)), (4, .int (iI y4)), (5, .int (iI y5)), (6, .int (iI y6))] → W p l e rX4_writes s m args below meth c H locs 0 0 Qg (F0 m 52 ls [.int (iI t0)]) := by
    intro y1 y2 y3 y4 y5 y6 t0 r H locs ls h hP hD hS hl
    refine lv_istore (lv' := [(7, .int (iI t0)), (0, .ref a), (1, .int (iI y1)), (2, .int (iI y2)), (3, .int (iI y3)), (4, .int (iI y4)), (5, .int (iI y5)), (6, .int (iI y6))]) F.1 F.2.1 dX4_writes_52 hl (by decide) rfl (fun ls hl => ?_)
    refine gv_bipush F ⟨by decide, by decide⟩ dX4_writes_54 ?_
    refine lv_istore (lv' := [(8, .int (iI (-9))), (7, .int (iI t0)), (0, .ref a), (1, .int (iI y1)), (2, .int (iI y2)), (3, .int (iI y3)), (4, .int (iI y4)), (5, .int (iI y5)), (6, .int (iI y6))]) F.1 F.2.1 dX4_writes_56 hl (by decide) rfl (fun ls hl => ?_)
    refine lv_iload F.1 F.2.1 dX4_writes_58 (lv_at hl 8 rfl) ?_
    refine lv_istore (lv' := [(9, .int (iI y6)), (8, .int (iI (-9))), (7, .int (iI t0)), (0, .ref a), (1, .int (iI y1)), (2, .int (iI y2)), (3, .int (iI y3)), (4, .int (iI y4)), (5, .int (iI y5)), (6, .int (iI y6))]) F.1 F.2.1 dX4_writes_60 hl (by decide) rfl (fun ls hl => ?_)
    refine lv_iload_n F.1 F.2.1 dX4_writes_62 rfl (lv_at hl 6 rfl) ?_
    obtain ⟨g14, h⟩ := h
    by_cases c15 : y3 = 3
    · have h := h.1 c15
      refine gv_tableIn (tgt := 88) (off := 25) F g14 c15 (by decide) (by decide) dX4_writes_63 rfl (by decide) ?_
      refine lv_goto (tgt := 175) F.1 F.2.1 dX4_writes_88 (by decide) ?_
      exact L175 y1 y2 (-9) y6 r H locs ls h hP hD hS (lv_sub hl [3, 4, 5, 1, 0] rfl)
    by_cases c16 : y3 = 4
    · have h := h.2.1 c16
      refine gv_tableIn (tgt := 91) (off := 28) F g14 c16 (by decide) (by decide) dX4_writes_63 rfl (by decide) ?_
      refine lv_iload F.1 F.2.1 dX4_writes_91 (lv_at hl 9 rfl) ?_
      refine lv_iload F.1 F.2.1 dX4_writes_93 (lv_at hl 7 rfl) ?_
      obtain ⟨g17, h⟩ := h
      obtain ⟨g18, h⟩ := h
      refine gv_icmp_ge (tgt := 108) F g17 g18 dX4_writes_95 (by decide) (fun c19 => ?_) (fun c19 => ?_)
      · have h := h.1 c19
        refine lv_iload F.1 F.2.1 dX4_writes_108 (lv_at hl 8 rfl) ?_
        refine lv_istore (lv' := [(9, .int (iI y5)), (8, .int (iI (-9))), (7, .int (iI t0)), (0, .ref a), (1, .int (iI y1)), (2, .int (iI y2)), (3, .int (iI y3)), (4, .int (iI y4)), (5, .int (iI y5)), (6, .int (iI y6))]) F.1 F.2.1 dX4_writes_110 hl (by decide) rfl (fun ls hl => ?_)
        refine lv_goto (tgt := 175) F.1 F.2.1 dX4_writes_112 (by decide) ?_
        exact L175 y1 y2 (-9) y5 r H locs ls h hP hD hS (lv_sub hl [3, 4, 5, 1, 0] rfl)
      · have h := h.2 c19
        refine lv_iload F.1 F.2.1 dX4_writes_98 (lv_at hl 8 rfl) ?_
        refine gv_iconst F dX4_writes_100 ?_
        refine gv_iadd F dX4_writes_101 ?_
        refine gv_bipush F ⟨by decide, by decide⟩ dX4_writes_102 ?_
        obtain ⟨g20, h⟩ := h
        refine gv_irem F ⟨g20, by decide, by decide⟩ dX4_writes_104 ?_
        refine lv_goto (tgt := 110) F.1 F.2.1 dX4_writes_105 (by decide) ?_
        refine gv_name (fun v21 ev21 => ?_)
        have h := h v21 ev21
        refine lv_istore (lv' := [(9, .int (iI v21)), (8, .int (iI (-9))), (7, .int (iI t0)), (0, .ref a), (1, .int (iI y1)), (2, .int (iI y2)), (3, .int (iI y3)), (4, .int (iI y4)), (5, .int (iI y5)), (6, .int (iI y6))]) F.1 F.2.1 dX4_writes_110 hl (by decide) rfl (fun ls hl => ?_)
        refine lv_goto (tgt := 175) F.1 F.2.1 dX4_writes_112 (by decide) ?_
        exact L175 y1 y2 (-9) v21 r H locs ls h hP hD hS (lv_sub hl [3, 4, 5, 1, 0] rfl)
    by_cases c22 : y3 = 5
    · have h := h.2.2.1 c22
      refine gv_tableIn (tgt := 115) (off := 52) F g14 c22 (by decide) (by decide) dX4_writes_63 rfl (by decide) ?_
      refine lv_iload F.1 F.2.1 dX4_writes_115 (lv_at hl 8 rfl) ?_
      refine lv_istore (lv' := [(9, .int (iI y5)), (8, .int (iI (-9))), (7, .int (iI t0)), (0, .ref a), (1, .int (iI y1)), (2, .int (iI y2)), (3, .int (iI y3)), (4, .int (iI y4)), (5, .int (iI y5)), (6, .int (iI y6))]) F.1 F.2.1 dX4_writes_117 hl (by decide) rfl (fun ls hl => ?_)
      refine lv_goto (tgt := 175) F.1 F.2.1 dX4_writes_119 (by decide) ?_
      exact L175 y1 y2 (-9) y5 r H locs ls h hP hD hS (lv_sub hl [3, 4, 5, 1, 0] rfl)
    have cd : y3 < 3 ∨ 5 < y3 := by omega
    have h := h.2.2.2 cd
    refine gv_tableOut (tgt := 122) F g14 cd dX4_writes_63 (by decide) ?_
    refine lv_iload F.1 F.2.1 dX4_writes_122 (lv_at hl 2 rfl) ?_
    obtain ⟨g23, h⟩ := h
    refine gv_if_eq (tgt := 137) F g23 dX4_writes_124 (by decide) (fun c24 => ?_) (fun c24 => ?_)
    · have h := h.1 c24
      refine lv_aload_n F.1 F.2.1 dX4_writes_137 rfl (lv_at hl 3 rfl) ?_
      refine lv_iload_n F.1 F.2.1 dX4_writes_138 rfl (lv_at hl 4 rfl) ?_
      refine lv_iload_n F.1 F.2.1 dX4_writes_139 rfl (lv_at hl 5 rfl) ?_
      refine gc_SR (As := [.ref a, .int (iI y1), .int (iI y2)]) F hK hA hP hS hP (c_X4_other l D cy a r y1 y2 _ h) (cwS 3 F.2.2.2.2 (gG_S k903 k904 k67 k905) rfl rfl rfl hd_X4_other ⟨Nat.le_of_ble_eq_true rfl, Nat.le_of_ble_eq_true rfl⟩) dX4_writes_140 rfl rfl hl.1 (Nat.le_of_ble_eq_true rfl) ⟨Nat.le_of_ble_eq_true rfl, Nat.le_of_ble_eq_true rfl⟩ (fun u25 H locs h hP hS => ?_)
      exact L143 y1 y2 y5 y6 t0 u25 r H locs ls h hP hD hS (lv_sub hl [3, 4, 5, 8, 9, 2] rfl)
    · have h := h.2 c24
      refine lv_iload_n F.1 F.2.1 dX4_writes_127 rfl (lv_at hl 6 rfl) ?_
      refine gv_iconst F dX4_writes_128 ?_
      refine gv_icmp_eq (tgt := 137) F g14 ⟨by decide, by decide⟩ dX4_writes_129 (by decide) (fun c26 => ?_) (fun c26 => ?_)
      · have h := h.1 c26
        refine lv_aload_n F.1 F.2.1 dX4_writes_137 rfl (lv_at hl 3 rfl) ?_
        refine lv_iload_n F.1 F.2.1 dX4_writes_138 rfl (lv_at hl 4 rfl) ?_
        refine lv_iload_n F.1 F.2.1 dX4_writes_139 rfl (lv_at hl 5 rfl) ?_
        refine gc_SR (As := [.ref a, .int (iI y1), .int (iI y2)]) F hK hA hP hS hP (c_X4_other l D cy a r y1 y2 _ h) (cwS 3 F.2.2.2.2 (gG_S k903 k904 k67 k905) rfl rfl rfl hd_X4_other ⟨Nat.le_of_ble_eq_true rfl, Nat.le_of_ble_eq_true rfl⟩) dX4_writes_140 rfl rfl hl.1 (Nat.le_of_ble_eq_true rfl) ⟨Nat.le_of_ble_eq_true rfl, Nat.le_of_ble_eq_true rfl⟩ (fun u27 H locs h hP hS => ?_)
        exact L143 y1 y2 y5 y6 t0 u27 r H locs ls h hP hD hS (lv_sub hl [3, 4, 5, 8, 9, 2] rfl)
      · have h := h.2 c26
        refine gv_bipush F ⟨by decide, by decide⟩ dX4_writes_132 ?_
        refine lv_goto (tgt := 143) F.1 F.2.1 dX4_writes_134 (by decide) ?_
        exact L143 y1 y2 y5 y6 t0 (-9) r H locs ls h hP hD hS (lv_sub hl [3, 4, 5, 8, 9, 2] rfl)
  refine lv_aload_n F.1 F.2.1 dX4_writes_0 rfl (lv_at hl 0 rfl) ?_
  refine lv_iload_n F.1 F.2.1 dX4_writes_1 rfl (lv_at hl 2 rfl) ?_
  refine gv_iconst F dX4_writes_2 ?_
  refine gc_SR (As := [.int (iI x2), .int (iI 0)]) F hK hA hP hS gPnil (c_X4_ask l D cy x2 0 _ h) (cwS 2 F.2.2.2.2 (gG_S k856 k857 k67 k858) rfl rfl rfl hd_X4_ask ⟨Nat.le_of_ble_eq_true rfl, Nat.le_of_ble_eq_true rfl⟩) dX4_writes_3 rfl rfl hl.1 (Nat.le_of_ble_eq_true rfl) ⟨Nat.le_of_ble_eq_true rfl, Nat.le_of_ble_eq_true rfl⟩ (fun u28 H locs h hP hS => ?_)
  obtain ⟨g29, h⟩ := h
  refine gv_iald (n := 147) (g := r) F hK hP 0 rfl rfl (by decide) g29 dX4_writes_6 ?_
  refine gv_name (fun v30 ev30 => ?_)
  have h := h v30 ev30
  refine lv_istore_n (lv' := [(3, .int (iI v30)), (0, .ref a), (1, .int (iI x1)), (2, .int (iI x2))]) F.1 F.2.1 dX4_writes_7 rfl hl (by decide) rfl (fun ls hl => ?_)
  refine lv_aload_n F.1 F.2.1 dX4_writes_8 rfl (lv_at hl 1 rfl) ?_
  refine lv_iload_n F.1 F.2.1 dX4_writes_9 rfl (lv_at hl 3 rfl) ?_
  refine gv_iconst F dX4_writes_10 ?_
  refine gc_SR (As := [.int (iI x2), .int (iI 1)]) F hK hA hP hS gPnil (c_X4_ask l D cy x2 1 _ h) (cwS 2 F.2.2.2.2 (gG_S k856 k857 k67 k858) rfl rfl rfl hd_X4_ask ⟨Nat.le_of_ble_eq_true rfl, Nat.le_of_ble_eq_true rfl⟩) dX4_writes_11 rfl rfl hl.1 (Nat.le_of_ble_eq_true rfl) ⟨Nat.le_of_ble_eq_true rfl, Nat.le_of_ble_eq_true rfl⟩ (fun u31 H locs h hP hS => ?_)
  obtain ⟨g32, h⟩ := h
  refine gv_iald (n := 147) (g := r) F hK hP 0 rfl rfl (by decide) g32 dX4_writes_14 ?_
  refine gv_name (fun v33 ev33 => ?_)
  have h := h v33 ev33
  refine lv_istore (lv' := [(4, .int (iI v33)), (3, .int (iI v30)), (0, .ref a), (1, .int (iI x1)), (2, .int (iI x2))]) F.1 F.2.1 dX4_writes_15 hl (by decide) rfl (fun ls hl => ?_)
  refine lv_aload_n F.1 F.2.1 dX4_writes_17 rfl (lv_at hl 2 rfl) ?_
  refine lv_iload_n F.1 F.2.1 dX4_writes_18 rfl (lv_at hl 4 rfl) ?_
  refine gv_iconst F dX4_writes_19 ?_
  refine gc_SR (As := [.int (iI x2), .int (iI 3)]) F hK hA hP hS gPnil (c_X4_ask l D cy x2 3 _ h) (cwS 2 F.2.2.2.2 (gG_S k856 k857 k67 k858) rfl rfl rfl hd_X4_ask ⟨Nat.le_of_ble_eq_true rfl, Nat.le_of_ble_eq_true rfl⟩) dX4_writes_20 rfl rfl hl.1 (Nat.le_of_ble_eq_true rfl) ⟨Nat.le_of_ble_eq_true rfl, Nat.le_of_ble_eq_true rfl⟩ (fun u34 H locs h hP hS => ?_)
  obtain ⟨g35, h⟩ := h
  refine gv_iald (n := 147) (g := r) F hK hP 0 rfl rfl (by decide) g35 dX4_writes_23 ?_
  refine gv_name (fun v36 ev36 => ?_)
  have h := h v36 ev36
  refine lv_istore (lv' := [(5, .int (iI v36)), (4, .int (iI v33)), (3, .int (iI v30)), (0, .ref a), (1, .int (iI x1)), (2, .int (iI x2))]) F.1 F.2.1 dX4_writes_24 hl (by decide) rfl (fun ls hl => ?_)
  refine lv_aload_n F.1 F.2.1 dX4_writes_26 rfl (lv_at hl 3 rfl) ?_
  refine lv_iload_n F.1 F.2.1 dX4_writes_27 rfl (lv_at hl 4 rfl) ?_
  refine gv_iconst F dX4_writes_28 ?_
  refine gc_SR (As := [.int (iI x1), .int (iI 1)]) F hK hA hP hS gPnil (c_X4_of l D cy x1 1 _ h) (cwS 2 F.2.2.2.2 (gG_S k862 k863 k67 k864) rfl rfl rfl hd_X4_of ⟨Nat.le_of_ble_eq_true rfl, Nat.le_of_ble_eq_true rfl⟩) dX4_writes_29 rfl rfl hl.1 (Nat.le_of_ble_eq_true rfl) ⟨Nat.le_of_ble_eq_true rfl, Nat.le_of_ble_eq_true rfl⟩ (fun u37 H locs h hP hS => ?_)
  obtain ⟨g38, h⟩ := h
  refine gv_iald (n := 147) (g := r) F hK hP 0 rfl rfl (by decide) g38 dX4_writes_32 ?_
  refine gv_name (fun v39 ev39 => ?_)
  have h := h v39 ev39
  refine lv_istore (lv' := [(6, .int (iI v39)), (5, .int (iI v36)), (4, .int (iI v33)), (3, .int (iI v30)), (0, .ref a), (1, .int (iI x1)), (2, .int (iI x2))]) F.1 F.2.1 dX4_writes_33 hl (by decide) rfl (fun ls hl => ?_)
  refine lv_aload_n F.1 F.2.1 dX4_writes_35 rfl (lv_at hl 4 rfl) ?_
  refine lv_iload_n F.1 F.2.1 dX4_writes_36 rfl (lv_at hl 5 rfl) ?_
  refine gv_iconst F dX4_writes_37 ?_
  refine gc_SR (As := [.int (iI x1), .int (iI 0)]) F hK hA hP hS gPnil (c_X4_of l D cy x1 0 _ h) (cwS 2 F.2.2.2.2 (gG_S k862 k863 k67 k864) rfl rfl rfl hd_X4_of ⟨Nat.le_of_ble_eq_true rfl, Nat.le_of_ble_eq_true rfl⟩) dX4_writes_38 rfl rfl hl.1 (Nat.le_of_ble_eq_true rfl) ⟨Nat.le_of_ble_eq_true rfl, Nat.le_of_ble_eq_true rfl⟩ (fun u40 H locs h hP hS => ?_)
  obtain ⟨g41, h⟩ := h
  refine gv_iald (n := 147) (g := r) F hK hP 0 rfl rfl (by decide) g41 dX4_writes_41 ?_
  refine lv_iload F.1 F.2.1 dX4_writes_42 (lv_at hl 2 rfl) ?_
  obtain ⟨g42, h⟩ := h
  obtain ⟨g43, h⟩ := h
  refine gv_icmp_lt (tgt := 51) F g42 g43 dX4_writes_44 (by decide) (fun c44 => ?_) (fun c44 => ?_)
  · have h := h.1 c44
    refine gv_iconst F dX4_writes_51 ?_
    exact L52 x1 x2 v30 v33 v36 v39 0 r H locs ls h hP hD hS (lv_sub hl [4, 5, 6, 3, 2, 1, 0] rfl)
  · have h := h.2 c44
    refine gv_iconst F dX4_writes_47 ?_
    refine lv_goto (tgt := 52) F.1 F.2.1 dX4_writes_48 (by decide) ?_
    exact L52 x1 x2 v30 v33 v36 v39 1 r H locs ls h hP hD hS (lv_sub hl [4, 5, 6, 3, 2, 1, 0] rfl)
abbrev rX4_goes : Room := { frames := 3, cells := 0, slots := 0, locals := 73 }
set_option maxHeartbeats 4000000 in
set_option maxRecDepth 20000 in
theorem c_X4_goes (l : Launch) (D : va_G) (cy : ClassId) (ad : Nat → Nat) (b : Nat) (o : AR) (fa : AR) (r : AR) (x2 : Int) (Q : AR → AR → Prop) (h : wX4_goes fa r x2 Q) : MetV l yX4_goes (wT yX4_goes cX4_goes 4 none) rX4_goes D cy [.ref (ad 0), .ref b, .int (iI x2)] (wMf cy ad b o fa r) (fun u : AR × AR => wMf cy ad b o u.1 u.2) (fun u => Q u.1 u.2) := by
  refine gI_V (by decide) (Nat.le_of_ble_eq_true rfl) ?_
  intro p e s m args below meth c A Qg F hK hA ret H locs ls hl hP hD hS
  have F : CallFix p m c cX4_goes 4 s args gT RX4 := F
  have hl : lv_has ls 4 [(0, .ref (ad 0)), (1, .ref b), (2, .int (iI x2))] := hl
  refine lv_aload_n F.1 F.2.1 dX4_goes_0 rfl (lv_at hl 1 rfl) ?_
  refine lv_iload_n F.1 F.2.1 dX4_goes_1 rfl (lv_at hl 2 rfl) ?_
  refine gc_SR (As := [.ref b, .int (iI x2)]) F hK hA hP hS (cp_mf_r hP) (c_X4_nextOf l D cy b r x2 _ h) (cwS 2 F.2.2.2.2 (gG_S k885 k886 k67 k887) rfl rfl rfl hd_X4_nextOf ⟨Nat.le_of_ble_eq_true rfl, Nat.le_of_ble_eq_true rfl⟩) dX4_goes_2 rfl rfl hl.1 (Nat.le_of_ble_eq_true rfl) ⟨Nat.le_of_ble_eq_true rfl, Nat.le_of_ble_eq_true rfl⟩ (fun u1 H locs h hP hS => ?_)
  refine lv_istore_n (lv' := [(3, .int (iI u1)), (0, .ref (ad 0)), (1, .ref b), (2, .int (iI x2))]) F.1 F.2.1 dX4_goes_5 rfl hl (by decide) rfl (fun ls hl => ?_)
  refine lv_iload_n F.1 F.2.1 dX4_goes_6 rfl (lv_at hl 0 rfl) ?_
  obtain ⟨g2, h⟩ := h
  refine gv_if_ge (tgt := 11) F g2 dX4_goes_7 (by decide) (fun c3 => ?_) (fun c3 => ?_)
  · have h := h.1 c3
    refine lv_aload_n F.1 F.2.1 dX4_goes_11 rfl (lv_at hl 2 rfl) ?_
    refine lv_iload_n F.1 F.2.1 dX4_goes_12 rfl (lv_at hl 3 rfl) ?_
    refine gv_iconst F dX4_goes_13 ?_
    refine gc_SR (As := [.int (iI x2), .int (iI 3)]) F hK hA hP hS gPnil (c_X4_of l D cy x2 3 _ h) (cwS 2 F.2.2.2.2 (gG_S k862 k863 k67 k864) rfl rfl rfl hd_X4_of ⟨Nat.le_of_ble_eq_true rfl, Nat.le_of_ble_eq_true rfl⟩) dX4_goes_14 rfl rfl hl.1 (Nat.le_of_ble_eq_true rfl) ⟨Nat.le_of_ble_eq_true rfl, Nat.le_of_ble_eq_true rfl⟩ (fun u4 H locs h hP hS => ?_)
    obtain ⟨g5, h⟩ := h
    refine gv_iald (n := 147) (g := r) F hK hP 2 rfl rfl (by decide) g5 dX4_goes_17 ?_
    refine lv_aload_n F.1 F.2.1 dX4_goes_18 rfl (lv_at hl 2 rfl) ?_
    refine lv_iload_n F.1 F.2.1 dX4_goes_19 rfl (lv_at hl 0 rfl) ?_
    refine gv_iconst F dX4_goes_20 ?_
    refine gc_SR (As := [.int (iI u1), .int (iI 2)]) F hK hA hP hS gPnil (c_X4_ask l D cy u1 2 _ h) (cwS 2 F.2.2.2.2 (gG_S k856 k857 k67 k858) rfl rfl rfl hd_X4_ask ⟨Nat.le_of_ble_eq_true rfl, Nat.le_of_ble_eq_true rfl⟩) dX4_goes_21 rfl rfl hl.1 (Nat.le_of_ble_eq_true rfl) ⟨Nat.le_of_ble_eq_true rfl, Nat.le_of_ble_eq_true rfl⟩ (fun u6 H locs h hP hS => ?_)
    obtain ⟨g7, h⟩ := h
    refine gv_iald (n := 147) (g := r) F hK hP 2 rfl rfl (by decide) g7 dX4_goes_24 ?_
    obtain ⟨g8, h⟩ := h
    obtain ⟨g9, h⟩ := h
    refine gv_icmp_eq (tgt := 63) F g8 g9 dX4_goes_25 (by decide) (fun c10 => ?_) (fun c10 => ?_)
    · have h := h.1 c10
      refine lv_aload_n F.1 F.2.1 dX4_goes_63 rfl (lv_at hl 2 rfl) ?_
      refine lv_iload_n F.1 F.2.1 dX4_goes_64 rfl (lv_at hl 3 rfl) ?_
      refine gv_iconst F dX4_goes_65 ?_
      refine gc_SR (As := [.int (iI x2), .int (iI 4)]) F hK hA hP hS gPnil (c_X4_of l D cy x2 4 _ h) (cwS 2 F.2.2.2.2 (gG_S k862 k863 k67 k864) rfl rfl rfl hd_X4_of ⟨Nat.le_of_ble_eq_true rfl, Nat.le_of_ble_eq_true rfl⟩) dX4_goes_66 rfl rfl hl.1 (Nat.le_of_ble_eq_true rfl) ⟨Nat.le_of_ble_eq_true rfl, Nat.le_of_ble_eq_true rfl⟩ (fun u11 H locs h hP hS => ?_)
      refine lv_dup2_11 F.1 F.2.1 dX4_goes_69 rfl rfl ?_
      obtain ⟨g12, h⟩ := h
      refine gv_iald (n := 147) (g := r) F hK hP 2 rfl rfl (by decide) g12 dX4_goes_70 ?_
      refine gv_iconst F dX4_goes_71 ?_
      refine gv_iadd F dX4_goes_72 ?_
      obtain ⟨g13, h⟩ := h
      obtain ⟨z14, ez14⟩ : ∃ z : AR, z = su r u11 ((r u11) + 1) := ⟨_, rfl⟩
      have h := h z14 ez14
      refine gv_iast (n := 147) (g := r) (ws' := wMf cy ad b o fa z14) F hK hP hD hS 2 rfl rfl (by decide) g13 (by subst ez14; exact rfl) dX4_goes_73 (fun H locs hP hD hS => ?_)
      refine lv_aload_n F.1 F.2.1 dX4_goes_74 rfl (lv_at hl 2 rfl) ?_
      refine lv_iload_n F.1 F.2.1 dX4_goes_75 rfl (lv_at hl 3 rfl) ?_
      refine gv_iconst F dX4_goes_76 ?_
      refine gc_SR (As := [.int (iI x2), .int (iI 4)]) F hK hA hP hS gPnil (c_X4_of l D cy x2 4 _ h) (cwS 2 F.2.2.2.2 (gG_S k862 k863 k67 k864) rfl rfl rfl hd_X4_of ⟨Nat.le_of_ble_eq_true rfl, Nat.le_of_ble_eq_true rfl⟩) dX4_goes_77 rfl rfl hl.1 (Nat.le_of_ble_eq_true rfl) ⟨Nat.le_of_ble_eq_true rfl, Nat.le_of_ble_eq_true rfl⟩ (fun u15 H locs h hP hS => ?_)
      obtain ⟨g16, h⟩ := h
      refine gv_iald (n := 147) (g := z14) F hK hP 2 rfl rfl (by decide) g16 dX4_goes_80 ?_
      refine lv_aload_n F.1 F.2.1 dX4_goes_81 rfl (lv_at hl 2 rfl) ?_
      refine lv_iload_n F.1 F.2.1 dX4_goes_82 rfl (lv_at hl 0 rfl) ?_
      refine gc_SR (As := [.ref b, .int (iI u1)]) F hK hA hP hS (cp_mf_r hP) (c_X4_minutesOf l D cy b z14 u1 _ h) (cwS 2 F.2.2.2.2 (gG_S k897 k898 k67 k899) rfl rfl rfl hd_X4_minutesOf ⟨Nat.le_of_ble_eq_true rfl, Nat.le_of_ble_eq_true rfl⟩) dX4_goes_83 rfl rfl hl.1 (Nat.le_of_ble_eq_true rfl) ⟨Nat.le_of_ble_eq_true rfl, Nat.le_of_ble_eq_true rfl⟩ (fun u17 H locs h hP hS => ?_)
      obtain ⟨g18, h⟩ := h
      obtain ⟨g19, h⟩ := h
      refine gv_icmp_ge (tgt := 90) F g18 g19 dX4_goes_86 (by decide) (fun c20 => ?_) (fun c20 => ?_)
      · have h := h.1 c20
        refine lv_aload_n F.1 F.2.1 dX4_goes_90 rfl (lv_at hl 2 rfl) ?_
        refine lv_iload_n F.1 F.2.1 dX4_goes_91 rfl (lv_at hl 3 rfl) ?_
        refine lv_iload_n F.1 F.2.1 dX4_goes_92 rfl (lv_at hl 0 rfl) ?_
        refine gc_SV (As := [.ref b, .int (iI x2), .int (iI u1)]) (wn := fun u : AR => wMf cy ad b o fa u) F hK hA hP hD hS (cp_mf_r hP) (cd_mf_r hD) (fun u H1 hk h1 _ => cj_mf_r hP hD u H1 hk h1) (c_X4_writes l D cy b z14 x2 u1 _ h) (cwS 3 F.2.2.2.2 (gG_S k900 k901 k67 k902) rfl rfl rfl hd_X4_writes ⟨Nat.le_of_ble_eq_true rfl, Nat.le_of_ble_eq_true rfl⟩) dX4_goes_93 rfl rfl hl.1 (Nat.le_of_ble_eq_true rfl) ⟨Nat.le_of_ble_eq_true rfl, Nat.le_of_ble_eq_true rfl⟩ (fun z21 H locs h hP hD hS => ?_)
        try dsimp only at h hP hD
        refine lv_aload_n F.1 F.2.1 dX4_goes_96 rfl (lv_at hl 2 rfl) ?_
        refine lv_iload_n F.1 F.2.1 dX4_goes_97 rfl (lv_at hl 3 rfl) ?_
        refine gv_iconst F dX4_goes_98 ?_
        refine gc_SR (As := [.int (iI x2), .int (iI 4)]) F hK hA hP hS gPnil (c_X4_of l D cy x2 4 _ h) (cwS 2 F.2.2.2.2 (gG_S k862 k863 k67 k864) rfl rfl rfl hd_X4_of ⟨Nat.le_of_ble_eq_true rfl, Nat.le_of_ble_eq_true rfl⟩) dX4_goes_99 rfl rfl hl.1 (Nat.le_of_ble_eq_true rfl) ⟨Nat.le_of_ble_eq_true rfl, Nat.le_of_ble_eq_true rfl⟩ (fun u22 H locs h hP hS => ?_)
        refine gv_iconst F dX4_goes_102 ?_
        obtain ⟨g23, h⟩ := h
        obtain ⟨z24, ez24⟩ : ∃ z : AR, z = su z21 u22 0 := ⟨_, rfl⟩
        have h := h z24 ez24
        refine gv_iast (n := 147) (g := z21) (ws' := wMf cy ad b o fa z24) F hK hP hD hS 2 rfl rfl (by decide) g23 (by subst ez24; exact rfl) dX4_goes_103 (fun H locs hP hD hS => ?_)
        exact ret (fa, z24) H locs 104 ls h hP hD hS dX4_goes_104
      · have h := h.2 c20
        exact ret (fa, z14) H locs 89 ls h hP hD hS dX4_goes_89
    · have h := h.2 c10
      refine lv_aload_n F.1 F.2.1 dX4_goes_28 rfl (lv_at hl 2 rfl) ?_
      refine lv_iload_n F.1 F.2.1 dX4_goes_29 rfl (lv_at hl 3 rfl) ?_
      refine gv_iconst F dX4_goes_30 ?_
      refine gc_SR (As := [.int (iI x2), .int (iI 3)]) F hK hA hP hS gPnil (c_X4_of l D cy x2 3 _ h) (cwS 2 F.2.2.2.2 (gG_S k862 k863 k67 k864) rfl rfl rfl hd_X4_of ⟨Nat.le_of_ble_eq_true rfl, Nat.le_of_ble_eq_true rfl⟩) dX4_goes_31 rfl rfl hl.1 (Nat.le_of_ble_eq_true rfl) ⟨Nat.le_of_ble_eq_true rfl, Nat.le_of_ble_eq_true rfl⟩ (fun u25 H locs h hP hS => ?_)
      refine lv_aload_n F.1 F.2.1 dX4_goes_34 rfl (lv_at hl 1 rfl) ?_
      refine lv_aload_n F.1 F.2.1 dX4_goes_35 rfl (lv_at hl 2 rfl) ?_
      refine lv_aload_n F.1 F.2.1 dX4_goes_36 rfl (lv_at hl 2 rfl) ?_
      refine lv_iload_n F.1 F.2.1 dX4_goes_37 rfl (lv_at hl 3 rfl) ?_
      refine gv_iconst F dX4_goes_38 ?_
      refine gc_SR (As := [.int (iI x2), .int (iI 3)]) F hK hA hP hS gPnil (c_X4_of l D cy x2 3 _ h) (cwS 2 F.2.2.2.2 (gG_S k862 k863 k67 k864) rfl rfl rfl hd_X4_of ⟨Nat.le_of_ble_eq_true rfl, Nat.le_of_ble_eq_true rfl⟩) dX4_goes_39 rfl rfl hl.1 (Nat.le_of_ble_eq_true rfl) ⟨Nat.le_of_ble_eq_true rfl, Nat.le_of_ble_eq_true rfl⟩ (fun u26 H locs h hP hS => ?_)
      obtain ⟨g27, h⟩ := h
      refine gv_iald (n := 147) (g := r) F hK hP 2 rfl rfl (by decide) g27 dX4_goes_42 ?_
      refine lv_aload_n F.1 F.2.1 dX4_goes_43 rfl (lv_at hl 2 rfl) ?_
      refine lv_iload_n F.1 F.2.1 dX4_goes_44 rfl (lv_at hl 0 rfl) ?_
      refine gv_iconst F dX4_goes_45 ?_
      refine gc_SR (As := [.int (iI u1), .int (iI 2)]) F hK hA hP hS gPnil (c_X4_ask l D cy u1 2 _ h) (cwS 2 F.2.2.2.2 (gG_S k856 k857 k67 k858) rfl rfl rfl hd_X4_ask ⟨Nat.le_of_ble_eq_true rfl, Nat.le_of_ble_eq_true rfl⟩) dX4_goes_46 rfl rfl hl.1 (Nat.le_of_ble_eq_true rfl) ⟨Nat.le_of_ble_eq_true rfl, Nat.le_of_ble_eq_true rfl⟩ (fun u28 H locs h hP hS => ?_)
      obtain ⟨g29, h⟩ := h
      refine gv_iald (n := 147) (g := r) F hK hP 2 rfl rfl (by decide) g29 dX4_goes_49 ?_
      refine gc_VI (As := [.ref b, .int (iI (r u26)), .int (iI (r u28))]) (wn := fun u : AR => wMf cy ad b o u r) F hK hA hP hD hS hP hD (fun u H1 _ h1 h2 => ⟨h1, h2⟩) (c_X4_onward l D cy ad b o fa r (r u26) (r u28) _ h) (cwV 3 F.2.2.2.2 (gG_V k888 k890 k46 k67 k891) rfl rfl rfl hd_X4_onward ⟨Nat.le_of_ble_eq_true rfl, Nat.le_of_ble_eq_true rfl⟩) rfl rfl dX4_goes_50 rfl rfl hl.1 (Nat.le_of_ble_eq_true rfl) ⟨Nat.le_of_ble_eq_true rfl, Nat.le_of_ble_eq_true rfl⟩ (fun u31 z30 H locs h hP hD hS => ?_)
      try dsimp only at h hP hD
      obtain ⟨g32, h⟩ := h
      obtain ⟨z33, ez33⟩ : ∃ z : AR, z = su r u25 u31 := ⟨_, rfl⟩
      have h := h z33 ez33
      refine gv_iast (n := 147) (g := r) (ws' := wMf cy ad b o z30 z33) F hK hP hD hS 2 rfl rfl (by decide) g32 (by subst ez33; exact rfl) dX4_goes_53 (fun H locs hP hD hS => ?_)
      refine lv_aload_n F.1 F.2.1 dX4_goes_54 rfl (lv_at hl 2 rfl) ?_
      refine lv_iload_n F.1 F.2.1 dX4_goes_55 rfl (lv_at hl 3 rfl) ?_
      refine gv_iconst F dX4_goes_56 ?_
      refine gc_SR (As := [.int (iI x2), .int (iI 4)]) F hK hA hP hS gPnil (c_X4_of l D cy x2 4 _ h) (cwS 2 F.2.2.2.2 (gG_S k862 k863 k67 k864) rfl rfl rfl hd_X4_of ⟨Nat.le_of_ble_eq_true rfl, Nat.le_of_ble_eq_true rfl⟩) dX4_goes_57 rfl rfl hl.1 (Nat.le_of_ble_eq_true rfl) ⟨Nat.le_of_ble_eq_true rfl, Nat.le_of_ble_eq_true rfl⟩ (fun u34 H locs h hP hS => ?_)
      refine gv_iconst F dX4_goes_60 ?_
      obtain ⟨g35, h⟩ := h
      obtain ⟨z36, ez36⟩ : ∃ z : AR, z = su z33 u34 0 := ⟨_, rfl⟩
      have h := h z36 ez36
      refine gv_iast (n := 147) (g := z33) (ws' := wMf cy ad b o z30 z36) F hK hP hD hS 2 rfl rfl (by decide) g35 (by subst ez36; exact rfl) dX4_goes_61 (fun H locs hP hD hS => ?_)
      exact ret (z30, z36) H locs 62 ls h hP hD hS dX4_goes_62
  · have h := h.2 c3
    exact ret (fa, r) H locs 10 ls h hP hD hS dX4_goes_10
abbrev rX4_minute : Room := { frames := 4, cells := 0, slots := 0, locals := 96 }
set_option maxHeartbeats 4000000 in
set_option maxRecDepth 20000 in
theorem c_X4_minute (l : Launch) (D : va_G) (cy : ClassId) (ad : Nat → Nat) (b : Nat) (o : AR) (fa : AR) (r : AR) (Q : AR → AR → Prop) (h : wX4_minute fa r Q) : MetV l yX4_minute (wT yX4_minute cX4_minute 3 none) rX4_minute D cy [.ref (ad 0), .ref b] (wMf cy ad b o fa r) (fun u : AR × AR => wMf cy ad b o u.1 u.2) (fun u => Q u.1 u.2) := by
  refine gI_V (by decide) (Nat.le_of_ble_eq_true rfl) ?_
  intro p e s m args below meth c A Qg F hK hA ret H locs ls hl hP hD hS
  have F : CallFix p m c cX4_minute 3 s args gT RX4 := F
  have hl : lv_has ls 3 [(0, .ref (ad 0)), (1, .ref b)] := hl
  have L9 : ∀ (n : Nat) (y2 : Int) (fa : AR) (r : AR) (H : Heap) (locs : List Loc) (ls : Array Slot), wX4_minute_9 Q n y2 fa r → va_P D vwCl (wMf cy ad b o fa r) H → va_D A (wMf cy ad b o fa r) → va_S A s.heap H locs → lv_has ls 3 [(0, .ref (ad 0)), (1, .ref b), (2, .int (iI y2))] → W p l e rX4_minute s m args below meth c H locs 0 0 Qg (F0 m 9 ls []) := by
    intro  n
    induction n with
    | zero => intro _ _ _ _ _ _ h; exact h.elim
    | succ n ih =>
      intro y2 fa r H locs ls h hP hD hS hl
      rw [wX4_minute_9_s] at h
      refine lv_iload_n F.1 F.2.1 dX4_minute_9 rfl (lv_at hl 2 rfl) ?_
      refine lv_aload_n F.1 F.2.1 dX4_minute_10 rfl (lv_at hl 1 rfl) ?_
      refine gv_iconst F dX4_minute_11 ?_
      refine gv_iald (n := 147) (g := r) F hK hP 2 rfl rfl (by decide) ⟨by decide, by decide⟩ dX4_minute_12 ?_
      obtain ⟨g1, h⟩ := h
      obtain ⟨g2, h⟩ := h
      refine gv_icmp_ge (tgt := 28) F g1 g2 dX4_minute_13 (by decide) (fun c3 => ?_) (fun c3 => ?_)
      · have h := h.1 c3
        exact ret (fa, r) H locs 28 ls h hP hD hS dX4_minute_28
      · have h := h.2 c3
        refine lv_aload_n F.1 F.2.1 dX4_minute_16 rfl (lv_at hl 0 rfl) ?_
        refine lv_aload_n F.1 F.2.1 dX4_minute_17 rfl (lv_at hl 1 rfl) ?_
        refine lv_iload_n F.1 F.2.1 dX4_minute_18 rfl (lv_at hl 2 rfl) ?_
        refine gc_VV (As := [.ref b, .int (iI y2)]) (wn := fun u : AR × AR => wMf cy ad b o u.1 u.2) F hK hA hP hD hS hP hD (fun u H1 _ h1 h2 => ⟨h1, h2⟩) (c_X4_goes l D cy ad b o fa r y2 _ h) (cwV 2 F.2.2.2.2 (gG_V k881 k883 k45 k67 k884) rfl rfl rfl hd_X4_goes ⟨Nat.le_of_ble_eq_true rfl, Nat.le_of_ble_eq_true rfl⟩) rfl rfl dX4_minute_19 rfl rfl hl.1 (Nat.le_of_ble_eq_true rfl) ⟨Nat.le_of_ble_eq_true rfl, Nat.le_of_ble_eq_true rfl⟩ (fun u H locs h hP hD hS => ?_)
        obtain ⟨z4, z5⟩ := u
        try dsimp only at h hP hD
        obtain ⟨v6, ev6⟩ : ∃ z : Int, z = y2 + 1 := ⟨_, rfl⟩
        have h := h v6 ev6
        refine gv_iinc (lv' := [(2, .int (iI v6)), (0, .ref (ad 0)), (1, .ref b)]) F dX4_minute_22 hl (k := 2) rfl ev6 (by decide) rfl (fun ls hl => ?_)
        refine lv_goto (tgt := 9) F.1 F.2.1 dX4_minute_25 (by decide) ?_
        exact ih v6 z4 z5 H locs ls h hP hD hS (lv_sub hl [1, 2, 0] rfl)
  refine lv_aload_n F.1 F.2.1 dX4_minute_0 rfl (lv_at hl 1 rfl) ?_
  refine gv_iconst F dX4_minute_1 ?_
  refine lv_dup2_11 F.1 F.2.1 dX4_minute_2 rfl rfl ?_
  refine gv_iald (n := 147) (g := r) F hK hP 2 rfl rfl (by decide) ⟨by decide, by decide⟩ dX4_minute_3 ?_
  refine gv_iconst F dX4_minute_4 ?_
  refine gv_iadd F dX4_minute_5 ?_
  obtain ⟨z7, ez7⟩ : ∃ z : AR, z = su r 2 ((r 2) + 1) := ⟨_, rfl⟩
  have h := h z7 ez7
  refine gv_iast (n := 147) (g := r) (ws' := wMf cy ad b o fa z7) F hK hP hD hS 2 rfl rfl (by decide) ⟨by decide, by decide⟩ (by subst ez7; exact rfl) dX4_minute_6 (fun H locs hP hD hS => ?_)
  refine gv_iconst F dX4_minute_7 ?_
  refine lv_istore_n (lv' := [(2, .int (iI 0)), (0, .ref (ad 0)), (1, .ref b)]) F.1 F.2.1 dX4_minute_8 rfl hl (by decide) rfl (fun ls hl => ?_)
  obtain ⟨n8, h⟩ := h
  exact L9 n8 0 fa z7 H locs ls h hP hD hS (lv_sub hl [1, 2, 0] rfl)
abbrev rX4_minutesOn : Room := { frames := 5, cells := 0, slots := 0, locals := 118 }
set_option maxHeartbeats 4000000 in
set_option maxRecDepth 20000 in
theorem c_X4_minutesOn (l : Launch) (D : va_G) (cy : ClassId) (ad : Nat → Nat) (b : Nat) (o : AR) (fa : AR) (r : AR) (x2 : Int) (Q : AR → AR → Prop) (h : wX4_minutesOn fa r x2 Q) : MetV l yX4_minutesOn (wT yX4_minutesOn cX4_minutesOn 4 none) rX4_minutesOn D cy [.ref (ad 0), .ref b, .int (iI x2)] (wMf cy ad b o fa r) (fun u : AR × AR => wMf cy ad b o u.1 u.2) (fun u => Q u.1 u.2) := by
  refine gI_V (by decide) (Nat.le_of_ble_eq_true rfl) ?_
  intro p e s m args below meth c A Qg F hK hA ret H locs ls hl hP hD hS
  have F : CallFix p m c cX4_minutesOn 4 s args gT RX4 := F
  have hl : lv_has ls 4 [(0, .ref (ad 0)), (1, .ref b), (2, .int (iI x2))] := hl
  have L2 : ∀ (n : Nat) (y2 : Int) (y3 : Int) (fa : AR) (r : AR) (H : Heap) (locs : List Loc) (ls : Array Slot), wX4_minutesOn_2 Q n y2 y3 fa r → va_P D vwCl (wMf cy ad b o fa r) H → va_D A (wMf cy ad b o fa r) → va_S A s.heap H locs → lv_has ls 4 [(0, .ref (ad 0)), (1, .ref b), (2, .int (iI y2)), (3, .int (iI y3))] → W p l e rX4_minutesOn s m args below meth c H locs 0 0 Qg (F0 m 2 ls []) := by
    intro  n
    induction n with
    | zero => intro _ _ _ _ _ _ _ h; exact h.elim
    | succ n ih =>
      intro y2 y3 fa r H locs ls h hP hD hS hl
      rw [wX4_minutesOn_2_s] at h
      refine lv_iload_n F.1 F.2.1 dX4_minutesOn_2 rfl (lv_at hl 3 rfl) ?_
      refine lv_iload_n F.1 F.2.1 dX4_minutesOn_3 rfl (lv_at hl 2 rfl) ?_
      obtain ⟨g1, h⟩ := h
      obtain ⟨g2, h⟩ := h
      refine gv_icmp_ge (tgt := 18) F g1 g2 dX4_minutesOn_4 (by decide) (fun c3 => ?_) (fun c3 => ?_)
      · have h := h.1 c3
        exact ret (fa, r) H locs 18 ls h hP hD hS dX4_minutesOn_18
      · have h := h.2 c3
        refine lv_aload_n F.1 F.2.1 dX4_minutesOn_7 rfl (lv_at hl 0 rfl) ?_
        refine lv_aload_n F.1 F.2.1 dX4_minutesOn_8 rfl (lv_at hl 1 rfl) ?_
        refine gc_VV (As := [.ref b]) (wn := fun u : AR × AR => wMf cy ad b o u.1 u.2) F hK hA hP hD hS hP hD (fun u H1 _ h1 h2 => ⟨h1, h2⟩) (c_X4_minute l D cy ad b o fa r _ h) (cwV 1 F.2.2.2.2 (gG_V k877 k879 k44 k67 k880) rfl rfl rfl hd_X4_minute ⟨Nat.le_of_ble_eq_true rfl, Nat.le_of_ble_eq_true rfl⟩) rfl rfl dX4_minutesOn_9 rfl rfl hl.1 (Nat.le_of_ble_eq_true rfl) ⟨Nat.le_of_ble_eq_true rfl, Nat.le_of_ble_eq_true rfl⟩ (fun u H locs h hP hD hS => ?_)
        obtain ⟨z4, z5⟩ := u
        try dsimp only at h hP hD
        obtain ⟨v6, ev6⟩ : ∃ z : Int, z = y3 + 1 := ⟨_, rfl⟩
        have h := h v6 ev6
        refine gv_iinc (lv' := [(3, .int (iI v6)), (0, .ref (ad 0)), (1, .ref b), (2, .int (iI y2))]) F dX4_minutesOn_12 hl (k := 3) rfl ev6 (by decide) rfl (fun ls hl => ?_)
        refine lv_goto (tgt := 2) F.1 F.2.1 dX4_minutesOn_15 (by decide) ?_
        exact ih y2 v6 z4 z5 H locs ls h hP hD hS (lv_sub hl [1, 2, 3, 0] rfl)
  refine gv_iconst F dX4_minutesOn_0 ?_
  refine lv_istore_n (lv' := [(3, .int (iI 0)), (0, .ref (ad 0)), (1, .ref b), (2, .int (iI x2))]) F.1 F.2.1 dX4_minutesOn_1 rfl hl (by decide) rfl (fun ls hl => ?_)
  obtain ⟨n7, h⟩ := h
  exact L2 n7 x2 0 fa r H locs ls h hP hD hS (lv_sub hl [1, 2, 3, 0] rfl)
abbrev rX4_begins : Room := { frames := 1, cells := 0, slots := 0, locals := 22 }
set_option maxHeartbeats 4000000 in
set_option maxRecDepth 20000 in
theorem c_X4_begins (l : Launch) (D : va_G) (cy : ClassId) (ad : Nat → Nat) (o : AR) (ss : AR) (mm : AR) (im : AR) (wa : AR) (le : AR) (ro : AR) (re : AR) (fa : AR) (nu : AR) (Q : AR → Prop) (h : wX4_begins ss mm Q) : MetV l yX4_begins (wT yX4_begins cX4_begins 2 none) rX4_begins D cy [.ref (ad 0)] (wMd cy ad o ss mm im wa le ro re fa nu) (fun u : AR => wMd cy ad o ss u im wa le ro re fa nu) (fun u => Q u) := by
  refine gI_V (by decide) (Nat.le_of_ble_eq_true rfl) ?_
  intro p e s m args below meth c A Qg F hK hA ret H locs ls hl hP hD hS
  have F : CallFix p m c cX4_begins 2 s args gT RX4 := F
  have hl : lv_has ls 2 [(0, .ref (ad 0))] := hl
  have L14 : ∀ (n : Nat) (y1 : Int) (mm : AR) (H : Heap) (locs : List Loc) (ls : Array Slot), wX4_begins_14 ss Q n y1 mm → va_P D vwCl (wMd cy ad o ss mm im wa le ro re fa nu) H → va_D A (wMd cy ad o ss mm im wa le ro re fa nu) → va_S A s.heap H locs → lv_has ls 2 [(0, .ref (ad 0)), (1, .int (iI y1))] → W p l e rX4_begins s m args below meth c H locs 0 0 Qg (F0 m 14 ls []) := by
    intro  n
    induction n with
    | zero => intro _ _ _ _ _ h; exact h.elim
    | succ n ih =>
      intro y1 mm H locs ls h hP hD hS hl
      rw [wX4_begins_14_s] at h
      refine lv_iload_n F.1 F.2.1 dX4_begins_14 rfl (lv_at hl 1 rfl) ?_
      refine gv_sipush F ⟨by decide, by decide⟩ dX4_begins_15 ?_
      obtain ⟨g1, h⟩ := h
      refine gv_icmp_ge (tgt := 35) F g1 ⟨by decide, by decide⟩ dX4_begins_18 (by decide) (fun c2 => ?_) (fun c2 => ?_)
      · have h := h.1 c2
        exact ret mm H locs 35 ls h hP hD hS dX4_begins_35
      · have h := h.2 c2
        refine lv_aload_n F.1 F.2.1 dX4_begins_21 rfl (lv_at hl 0 rfl) ?_
        refine gv_get F hin4 hK hP 0 rfl rfl 1 (by decide) k757 rfl dX4_begins_22 ?_
        refine lv_iload_n F.1 F.2.1 dX4_begins_25 rfl (lv_at hl 1 rfl) ?_
        refine gv_bipush F ⟨by decide, by decide⟩ dX4_begins_26 ?_
        obtain ⟨g3, h⟩ := h
        obtain ⟨z4, ez4⟩ : ∃ z : AR, z = su mm y1 (-9) := ⟨_, rfl⟩
        have h := h z4 ez4
        refine gv_iast (n := 147) (g := mm) (ws' := wMd cy ad o ss z4 im wa le ro re fa nu) F hK hP hD hS 2 rfl rfl (by decide) g3 (by subst ez4; exact rfl) dX4_begins_28 (fun H locs hP hD hS => ?_)
        obtain ⟨v5, ev5⟩ : ∃ z : Int, z = y1 + 1 := ⟨_, rfl⟩
        have h := h v5 ev5
        refine gv_iinc (lv' := [(1, .int (iI v5)), (0, .ref (ad 0))]) F dX4_begins_29 hl (k := 1) rfl ev5 (by decide) rfl (fun ls hl => ?_)
        refine lv_goto (tgt := 14) F.1 F.2.1 dX4_begins_32 (by decide) ?_
        exact ih v5 z4 H locs ls h hP hD hS (lv_sub hl [1, 0] rfl)
  refine lv_aload_n F.1 F.2.1 dX4_begins_0 rfl (lv_at hl 0 rfl) ?_
  refine gv_get F hin4 hK hP 0 rfl rfl 0 (by decide) k756 rfl dX4_begins_1 ?_
  refine lv_aload_n F.1 F.2.1 dX4_begins_4 rfl (lv_at hl 0 rfl) ?_
  refine gv_get F hin4 hK hP 0 rfl rfl 1 (by decide) k757 rfl dX4_begins_5 ?_
  refine gc_SV (As := [.ref (ad 1), .ref (ad 2)]) (wn := fun u : AR => wMd cy ad o ss u im wa le ro re fa nu) F hK hA hP hD hS (cp_md_s_m hP) (cd_md_s_m hD) (fun u H1 hk h1 _ => cj_md_s_m hP hD u H1 hk h1) (c_X4_lays l D cy (ad 1) (ad 2) ss mm _ h) (cwS 2 F.2.2.2.2 (gG_S k842 k843 k67 k844) rfl rfl rfl hd_X4_lays ⟨Nat.le_of_ble_eq_true rfl, Nat.le_of_ble_eq_true rfl⟩) dX4_begins_8 rfl rfl hl.1 (Nat.le_of_ble_eq_true rfl) ⟨Nat.le_of_ble_eq_true rfl, Nat.le_of_ble_eq_true rfl⟩ (fun z6 H locs h hP hD hS => ?_)
  try dsimp only at h hP hD
  refine gv_bipush F ⟨by decide, by decide⟩ dX4_begins_11 ?_
  refine lv_istore_n (lv' := [(1, .int (iI 107)), (0, .ref (ad 0))]) F.1 F.2.1 dX4_begins_13 rfl hl (by decide) rfl (fun ls hl => ?_)
  obtain ⟨n7, h⟩ := h
  exact L14 n7 107 z6 H locs ls h hP hD hS (lv_sub hl [1, 0] rfl)
abbrev rX4_answersOf : Room := { frames := 1, cells := 0, slots := 0, locals := 21 }
set_option maxHeartbeats 4000000 in
set_option maxRecDepth 20000 in
theorem c_X4_answersOf (l : Launch) (D : va_G) (cy : ClassId) (a : Nat) (r : AR) (x1 : Int) (Q : Int → Prop) (h : wX4_answersOf r x1 Q) : MetR l yX4_answersOf (wT yX4_answersOf cX4_answersOf 4 (some .int)) rX4_answersOf D cy [.ref a, .int (iI x1)] (wAr cy a 147 r) Q := by
  refine gI_R (by decide) (Nat.le_of_ble_eq_true rfl) ?_
  intro p e s m args below meth c A Qg F hK hA ret H locs ls hl hP hS
  have F : CallFix p m c cX4_answersOf 4 s args gT RX4 := F
  have hl : lv_has ls 4 [(0, .ref a), (1, .int (iI x1))] := hl
  have L4 : ∀ (n : Nat) (y1 : Int) (y2 : Int) (y3 : Int) (H : Heap) (locs : List Loc) (ls : Array Slot), wX4_answersOf_4 r Q n y1 y2 y3 → va_P D vwCl (wAr cy a 147 r) H → va_S A s.heap H locs → lv_has ls 4 [(0, .ref a), (1, .int (iI y1)), (2, .int (iI y2)), (3, .int (iI y3))] → W p l e rX4_answersOf s m args below meth c H locs 0 0 Qg (F0 m 4 ls []) := by
    intro  n
    induction n with
    | zero => intro _ _ _ _ _ _ h; exact h.elim
    | succ n ih =>
      intro y1 y2 y3 H locs ls h hP hS hl
      rw [wX4_answersOf_4_s] at h
      refine lv_iload_n F.1 F.2.1 dX4_answersOf_4 rfl (lv_at hl 3 rfl) ?_
      refine lv_aload_n F.1 F.2.1 dX4_answersOf_5 rfl (lv_at hl 0 rfl) ?_
      refine gv_iconst F dX4_answersOf_6 ?_
      refine gv_iald (n := 147) (g := r) F hK hP 0 rfl rfl (by decide) ⟨by decide, by decide⟩ dX4_answersOf_7 ?_
      obtain ⟨g1, h⟩ := h
      obtain ⟨g2, h⟩ := h
      refine gv_icmp_ge (tgt := 35) F g1 g2 dX4_answersOf_8 (by decide) (fun c3 => ?_) (fun c3 => ?_)
      · have h := h.1 c3
        refine lv_iload_n F.1 F.2.1 dX4_answersOf_35 rfl (lv_at hl 2 rfl) ?_
        exact ret y2 H locs 36 ls h rfl hS dX4_answersOf_36
      · have h := h.2 c3
        refine lv_iload_n F.1 F.2.1 dX4_answersOf_11 rfl (lv_at hl 2 rfl) ?_
        refine lv_aload_n F.1 F.2.1 dX4_answersOf_12 rfl (lv_at hl 0 rfl) ?_
        refine lv_iload_n F.1 F.2.1 dX4_answersOf_13 rfl (lv_at hl 1 rfl) ?_
        refine lv_iload_n F.1 F.2.1 dX4_answersOf_14 rfl (lv_at hl 3 rfl) ?_
        refine gc_SR (As := [.int (iI y1), .int (iI y3)]) F hK hA hP hS gPnil (c_X4_sheetOf l D cy y1 y3 _ h) (cwS 2 F.2.2.2.2 (gG_S k859 k860 k67 k861) rfl rfl rfl hd_X4_sheetOf ⟨Nat.le_of_ble_eq_true rfl, Nat.le_of_ble_eq_true rfl⟩) dX4_answersOf_15 rfl rfl hl.1 (Nat.le_of_ble_eq_true rfl) ⟨Nat.le_of_ble_eq_true rfl, Nat.le_of_ble_eq_true rfl⟩ (fun u4 H locs h hP hS => ?_)
        obtain ⟨g5, h⟩ := h
        refine gv_iald (n := 147) (g := r) F hK hP 0 rfl rfl (by decide) g5 dX4_answersOf_18 ?_
        obtain ⟨g6, h⟩ := h
        refine gv_if_lt (tgt := 26) F g6 dX4_answersOf_19 (by decide) (fun c7 => ?_) (fun c7 => ?_)
        · have h := h.1 c7
          refine gv_iconst F dX4_answersOf_26 ?_
          refine gv_iadd F dX4_answersOf_27 ?_
          refine gv_name (fun v8 ev8 => ?_)
          have h := h v8 ev8
          refine lv_istore_n (lv' := [(2, .int (iI v8)), (0, .ref a), (1, .int (iI y1)), (3, .int (iI y3))]) F.1 F.2.1 dX4_answersOf_28 rfl hl (by decide) rfl (fun ls hl => ?_)
          obtain ⟨v9, ev9⟩ : ∃ z : Int, z = y3 + 1 := ⟨_, rfl⟩
          have h := h v9 ev9
          refine gv_iinc (lv' := [(3, .int (iI v9)), (2, .int (iI v8)), (0, .ref a), (1, .int (iI y1))]) F dX4_answersOf_29 hl (k := 3) rfl ev9 (by decide) rfl (fun ls hl => ?_)
          refine lv_goto (tgt := 4) F.1 F.2.1 dX4_answersOf_32 (by decide) ?_
          exact ih y1 v8 v9 H locs ls h hP hS (lv_sub hl [2, 3, 1, 0] rfl)
        · have h := h.2 c7
          refine gv_iconst F dX4_answersOf_22 ?_
          refine lv_goto (tgt := 27) F.1 F.2.1 dX4_answersOf_23 (by decide) ?_
          refine gv_iadd F dX4_answersOf_27 ?_
          refine gv_name (fun v10 ev10 => ?_)
          have h := h v10 ev10
          refine lv_istore_n (lv' := [(2, .int (iI v10)), (0, .ref a), (1, .int (iI y1)), (3, .int (iI y3))]) F.1 F.2.1 dX4_answersOf_28 rfl hl (by decide) rfl (fun ls hl => ?_)
          obtain ⟨v11, ev11⟩ : ∃ z : Int, z = y3 + 1 := ⟨_, rfl⟩
          have h := h v11 ev11
          refine gv_iinc (lv' := [(3, .int (iI v11)), (2, .int (iI v10)), (0, .ref a), (1, .int (iI y1))]) F dX4_answersOf_29 hl (k := 3) rfl ev11 (by decide) rfl (fun ls hl => ?_)
          refine lv_goto (tgt := 4) F.1 F.2.1 dX4_answersOf_32 (by decide) ?_
          exact ih y1 v10 v11 H locs ls h hP hS (lv_sub hl [2, 3, 1, 0] rfl)
  refine gv_iconst F dX4_answersOf_0 ?_
  refine lv_istore_n (lv' := [(2, .int (iI 0)), (0, .ref a), (1, .int (iI x1))]) F.1 F.2.1 dX4_answersOf_1 rfl hl (by decide) rfl (fun ls hl => ?_)
  refine gv_iconst F dX4_answersOf_2 ?_
  refine lv_istore_n (lv' := [(3, .int (iI 0)), (2, .int (iI 0)), (0, .ref a), (1, .int (iI x1))]) F.1 F.2.1 dX4_answersOf_3 rfl hl (by decide) rfl (fun ls hl => ?_)
  obtain ⟨n12, h⟩ := h
  exact L4 n12 x1 0 0 H locs ls h hP hS (lv_sub hl [2, 3, 1, 0] rfl)
abbrev rX4_rightOf : Room := { frames := 1, cells := 0, slots := 0, locals := 21 }
set_option maxHeartbeats 4000000 in
set_option maxRecDepth 20000 in
theorem c_X4_rightOf (l : Launch) (D : va_G) (cy : ClassId) (a : Nat) (r : AR) (x1 : Int) (Q : Int → Prop) (h : wX4_rightOf r x1 Q) : MetR l yX4_rightOf (wT yX4_rightOf cX4_rightOf 4 (some .int)) rX4_rightOf D cy [.ref a, .int (iI x1)] (wAr cy a 147 r) Q := by
  refine gI_R (by decide) (Nat.le_of_ble_eq_true rfl) ?_
  intro p e s m args below meth c A Qg F hK hA ret H locs ls hl hP hS
  have F : CallFix p m c cX4_rightOf 4 s args gT RX4 := F
  have hl : lv_has ls 4 [(0, .ref a), (1, .int (iI x1))] := hl
  have L4 : ∀ (n : Nat) (y1 : Int) (y2 : Int) (y3 : Int) (H : Heap) (locs : List Loc) (ls : Array Slot), wX4_rightOf_4 r Q n y1 y2 y3 → va_P D vwCl (wAr cy a 147 r) H → va_S A s.heap H locs → lv_has ls 4 [(0, .ref a), (1, .int (iI y1)), (2, .int (iI y2)), (3, .int (iI y3))] → W p l e rX4_rightOf s m args below meth c H locs 0 0 Qg (F0 m 4 ls []) := by
    intro  n
    induction n with
    | zero => intro _ _ _ _ _ _ h; exact h.elim
    | succ n ih =>
      intro y1 y2 y3 H locs ls h hP hS hl
      rw [wX4_rightOf_4_s] at h
      refine lv_iload_n F.1 F.2.1 dX4_rightOf_4 rfl (lv_at hl 3 rfl) ?_
      refine lv_aload_n F.1 F.2.1 dX4_rightOf_5 rfl (lv_at hl 0 rfl) ?_
      refine gv_iconst F dX4_rightOf_6 ?_
      refine gv_iald (n := 147) (g := r) F hK hP 0 rfl rfl (by decide) ⟨by decide, by decide⟩ dX4_rightOf_7 ?_
      obtain ⟨g1, h⟩ := h
      obtain ⟨g2, h⟩ := h
      refine gv_icmp_ge (tgt := 42) F g1 g2 dX4_rightOf_8 (by decide) (fun c3 => ?_) (fun c3 => ?_)
      · have h := h.1 c3
        refine lv_iload_n F.1 F.2.1 dX4_rightOf_42 rfl (lv_at hl 2 rfl) ?_
        exact ret y2 H locs 43 ls h rfl hS dX4_rightOf_43
      · have h := h.2 c3
        refine lv_iload_n F.1 F.2.1 dX4_rightOf_11 rfl (lv_at hl 2 rfl) ?_
        refine lv_aload_n F.1 F.2.1 dX4_rightOf_12 rfl (lv_at hl 0 rfl) ?_
        refine lv_iload_n F.1 F.2.1 dX4_rightOf_13 rfl (lv_at hl 1 rfl) ?_
        refine lv_iload_n F.1 F.2.1 dX4_rightOf_14 rfl (lv_at hl 3 rfl) ?_
        refine gc_SR (As := [.int (iI y1), .int (iI y3)]) F hK hA hP hS gPnil (c_X4_sheetOf l D cy y1 y3 _ h) (cwS 2 F.2.2.2.2 (gG_S k859 k860 k67 k861) rfl rfl rfl hd_X4_sheetOf ⟨Nat.le_of_ble_eq_true rfl, Nat.le_of_ble_eq_true rfl⟩) dX4_rightOf_15 rfl rfl hl.1 (Nat.le_of_ble_eq_true rfl) ⟨Nat.le_of_ble_eq_true rfl, Nat.le_of_ble_eq_true rfl⟩ (fun u4 H locs h hP hS => ?_)
        obtain ⟨g5, h⟩ := h
        refine gv_iald (n := 147) (g := r) F hK hP 0 rfl rfl (by decide) g5 dX4_rightOf_18 ?_
        refine lv_aload_n F.1 F.2.1 dX4_rightOf_19 rfl (lv_at hl 0 rfl) ?_
        refine lv_iload_n F.1 F.2.1 dX4_rightOf_20 rfl (lv_at hl 3 rfl) ?_
        refine gv_iconst F dX4_rightOf_21 ?_
        refine gc_SR (As := [.int (iI y3), .int (iI 3)]) F hK hA hP hS gPnil (c_X4_ask l D cy y3 3 _ h) (cwS 2 F.2.2.2.2 (gG_S k856 k857 k67 k858) rfl rfl rfl hd_X4_ask ⟨Nat.le_of_ble_eq_true rfl, Nat.le_of_ble_eq_true rfl⟩) dX4_rightOf_22 rfl rfl hl.1 (Nat.le_of_ble_eq_true rfl) ⟨Nat.le_of_ble_eq_true rfl, Nat.le_of_ble_eq_true rfl⟩ (fun u6 H locs h hP hS => ?_)
        obtain ⟨g7, h⟩ := h
        refine gv_iald (n := 147) (g := r) F hK hP 0 rfl rfl (by decide) g7 dX4_rightOf_25 ?_
        obtain ⟨g8, h⟩ := h
        obtain ⟨g9, h⟩ := h
        refine gv_icmp_ne (tgt := 33) F g8 g9 dX4_rightOf_26 (by decide) (fun c10 => ?_) (fun c10 => ?_)
        · have h := h.1 c10
          refine gv_iconst F dX4_rightOf_33 ?_
          refine gv_iadd F dX4_rightOf_34 ?_
          refine gv_name (fun v11 ev11 => ?_)
          have h := h v11 ev11
          refine lv_istore_n (lv' := [(2, .int (iI v11)), (0, .ref a), (1, .int (iI y1)), (3, .int (iI y3))]) F.1 F.2.1 dX4_rightOf_35 rfl hl (by decide) rfl (fun ls hl => ?_)
          obtain ⟨v12, ev12⟩ : ∃ z : Int, z = y3 + 1 := ⟨_, rfl⟩
          have h := h v12 ev12
          refine gv_iinc (lv' := [(3, .int (iI v12)), (2, .int (iI v11)), (0, .ref a), (1, .int (iI y1))]) F dX4_rightOf_36 hl (k := 3) rfl ev12 (by decide) rfl (fun ls hl => ?_)
          refine lv_goto (tgt := 4) F.1 F.2.1 dX4_rightOf_39 (by decide) ?_
          exact ih y1 v11 v12 H locs ls h hP hS (lv_sub hl [2, 3, 1, 0] rfl)
        · have h := h.2 c10
          refine gv_iconst F dX4_rightOf_29 ?_
          refine lv_goto (tgt := 34) F.1 F.2.1 dX4_rightOf_30 (by decide) ?_
          refine gv_iadd F dX4_rightOf_34 ?_
          refine gv_name (fun v13 ev13 => ?_)
          have h := h v13 ev13
          refine lv_istore_n (lv' := [(2, .int (iI v13)), (0, .ref a), (1, .int (iI y1)), (3, .int (iI y3))]) F.1 F.2.1 dX4_rightOf_35 rfl hl (by decide) rfl (fun ls hl => ?_)
          obtain ⟨v14, ev14⟩ : ∃ z : Int, z = y3 + 1 := ⟨_, rfl⟩
          have h := h v14 ev14
          refine gv_iinc (lv' := [(3, .int (iI v14)), (2, .int (iI v13)), (0, .ref a), (1, .int (iI y1))]) F dX4_rightOf_36 hl (k := 3) rfl ev14 (by decide) rfl (fun ls hl => ?_)
          refine lv_goto (tgt := 4) F.1 F.2.1 dX4_rightOf_39 (by decide) ?_
          exact ih y1 v13 v14 H locs ls h hP hS (lv_sub hl [2, 3, 1, 0] rfl)
  refine gv_iconst F dX4_rightOf_0 ?_
  refine lv_istore_n (lv' := [(2, .int (iI 0)), (0, .ref a), (1, .int (iI x1))]) F.1 F.2.1 dX4_rightOf_1 rfl hl (by decide) rfl (fun ls hl => ?_)
  refine gv_iconst F dX4_rightOf_2 ?_
  refine lv_istore_n (lv' := [(3, .int (iI 0)), (2, .int (iI 0)), (0, .ref a), (1, .int (iI x1))]) F.1 F.2.1 dX4_rightOf_3 rfl hl (by decide) rfl (fun ls hl => ?_)
  obtain ⟨n15, h⟩ := h
  exact L4 n15 x1 0 0 H locs ls h hP hS (lv_sub hl [2, 3, 1, 0] rfl)
abbrev rX4_copiedOf : Room := { frames := 1, cells := 0, slots := 0, locals := 21 }
set_option maxHeartbeats 4000000 in
set_option maxRecDepth 20000 in
theorem c_X4_copiedOf (l : Launch) (D : va_G) (cy : ClassId) (a : Nat) (r : AR) (x1 : Int) (Q : Int → Prop) (h : wX4_copiedOf r x1 Q) : MetR l yX4_copiedOf (wT yX4_copiedOf cX4_copiedOf 4 (some .int)) rX4_copiedOf D cy [.ref a, .int (iI x1)] (wAr cy a 147 r) Q := by
  refine gI_R (by decide) (Nat.le_of_ble_eq_true rfl) ?_
  intro p e s m args below meth c A Qg F hK hA ret H locs ls hl hP hS
  have F : CallFix p m c cX4_copiedOf 4 s args gT RX4 := F
  have hl : lv_has ls 4 [(0, .ref a), (1, .int (iI x1))] := hl
  have L4 : ∀ (n : Nat) (y1 : Int) (y2 : Int) (y3 : Int) (H : Heap) (locs : List Loc) (ls : Array Slot), wX4_copiedOf_4 r Q n y1 y2 y3 → va_P D vwCl (wAr cy a 147 r) H → va_S A s.heap H locs → lv_has ls 4 [(0, .ref a), (1, .int (iI y1)), (2, .int (iI y2)), (3, .int (iI y3))] → W p l e rX4_copiedOf s m args below meth c H locs 0 0 Qg (F0 m 4 ls []) := by
    intro  n
    induction n with
    | zero => intro _ _ _ _ _ _ h; exact h.elim
    | succ n ih =>
      intro y1 y2 y3 H locs ls h hP hS hl
      rw [wX4_copiedOf_4_s] at h
      refine lv_iload_n F.1 F.2.1 dX4_copiedOf_4 rfl (lv_at hl 3 rfl) ?_
      refine lv_aload_n F.1 F.2.1 dX4_copiedOf_5 rfl (lv_at hl 0 rfl) ?_
      refine gv_iconst F dX4_copiedOf_6 ?_
      refine gv_iald (n := 147) (g := r) F hK hP 0 rfl rfl (by decide) ⟨by decide, by decide⟩ dX4_copiedOf_7 ?_
      obtain ⟨g1, h⟩ := h
      obtain ⟨g2, h⟩ := h
      refine gv_icmp_ge (tgt := 35) F g1 g2 dX4_copiedOf_8 (by decide) (fun c3 => ?_) (fun c3 => ?_)
      · have h := h.1 c3
        refine lv_iload_n F.1 F.2.1 dX4_copiedOf_35 rfl (lv_at hl 2 rfl) ?_
        exact ret y2 H locs 36 ls h rfl hS dX4_copiedOf_36
      · have h := h.2 c3
        refine lv_iload_n F.1 F.2.1 dX4_copiedOf_11 rfl (lv_at hl 2 rfl) ?_
        refine lv_aload_n F.1 F.2.1 dX4_copiedOf_12 rfl (lv_at hl 0 rfl) ?_
        refine lv_iload_n F.1 F.2.1 dX4_copiedOf_13 rfl (lv_at hl 1 rfl) ?_
        refine lv_iload_n F.1 F.2.1 dX4_copiedOf_14 rfl (lv_at hl 3 rfl) ?_
        refine gc_SR (As := [.int (iI y1), .int (iI y3)]) F hK hA hP hS gPnil (c_X4_fromOf l D cy y1 y3 _ h) (cwS 2 F.2.2.2.2 (gG_S k906 k907 k67 k908) rfl rfl rfl hd_X4_fromOf ⟨Nat.le_of_ble_eq_true rfl, Nat.le_of_ble_eq_true rfl⟩) dX4_copiedOf_15 rfl rfl hl.1 (Nat.le_of_ble_eq_true rfl) ⟨Nat.le_of_ble_eq_true rfl, Nat.le_of_ble_eq_true rfl⟩ (fun u4 H locs h hP hS => ?_)
        obtain ⟨g5, h⟩ := h
        refine gv_iald (n := 147) (g := r) F hK hP 0 rfl rfl (by decide) g5 dX4_copiedOf_18 ?_
        obtain ⟨g6, h⟩ := h
        refine gv_if_lt (tgt := 26) F g6 dX4_copiedOf_19 (by decide) (fun c7 => ?_) (fun c7 => ?_)
        · have h := h.1 c7
          refine gv_iconst F dX4_copiedOf_26 ?_
          refine gv_iadd F dX4_copiedOf_27 ?_
          refine gv_name (fun v8 ev8 => ?_)
          have h := h v8 ev8
          refine lv_istore_n (lv' := [(2, .int (iI v8)), (0, .ref a), (1, .int (iI y1)), (3, .int (iI y3))]) F.1 F.2.1 dX4_copiedOf_28 rfl hl (by decide) rfl (fun ls hl => ?_)
          obtain ⟨v9, ev9⟩ : ∃ z : Int, z = y3 + 1 := ⟨_, rfl⟩
          have h := h v9 ev9
          refine gv_iinc (lv' := [(3, .int (iI v9)), (2, .int (iI v8)), (0, .ref a), (1, .int (iI y1))]) F dX4_copiedOf_29 hl (k := 3) rfl ev9 (by decide) rfl (fun ls hl => ?_)
          refine lv_goto (tgt := 4) F.1 F.2.1 dX4_copiedOf_32 (by decide) ?_
          exact ih y1 v8 v9 H locs ls h hP hS (lv_sub hl [2, 3, 1, 0] rfl)
        · have h := h.2 c7
          refine gv_iconst F dX4_copiedOf_22 ?_
          refine lv_goto (tgt := 27) F.1 F.2.1 dX4_copiedOf_23 (by decide) ?_
          refine gv_iadd F dX4_copiedOf_27 ?_
          refine gv_name (fun v10 ev10 => ?_)
          have h := h v10 ev10
          refine lv_istore_n (lv' := [(2, .int (iI v10)), (0, .ref a), (1, .int (iI y1)), (3, .int (iI y3))]) F.1 F.2.1 dX4_copiedOf_28 rfl hl (by decide) rfl (fun ls hl => ?_)
          obtain ⟨v11, ev11⟩ : ∃ z : Int, z = y3 + 1 := ⟨_, rfl⟩
          have h := h v11 ev11
          refine gv_iinc (lv' := [(3, .int (iI v11)), (2, .int (iI v10)), (0, .ref a), (1, .int (iI y1))]) F dX4_copiedOf_29 hl (k := 3) rfl ev11 (by decide) rfl (fun ls hl => ?_)
          refine lv_goto (tgt := 4) F.1 F.2.1 dX4_copiedOf_32 (by decide) ?_
          exact ih y1 v10 v11 H locs ls h hP hS (lv_sub hl [2, 3, 1, 0] rfl)
  refine gv_iconst F dX4_copiedOf_0 ?_
  refine lv_istore_n (lv' := [(2, .int (iI 0)), (0, .ref a), (1, .int (iI x1))]) F.1 F.2.1 dX4_copiedOf_1 rfl hl (by decide) rfl (fun ls hl => ?_)
  refine gv_iconst F dX4_copiedOf_2 ?_
  refine lv_istore_n (lv' := [(3, .int (iI 0)), (2, .int (iI 0)), (0, .ref a), (1, .int (iI x1))]) F.1 F.2.1 dX4_copiedOf_3 rfl hl (by decide) rfl (fun ls hl => ?_)
  obtain ⟨n12, h⟩ := h
  exact L4 n12 x1 0 0 H locs ls h hP hS (lv_sub hl [2, 3, 1, 0] rfl)
