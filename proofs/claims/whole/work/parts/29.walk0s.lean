abbrev rX0_fits : Room := { frames := 5, cells := 0, slots := 0, locals := 111 }
set_option maxHeartbeats 4000000 in
set_option maxRecDepth 20000 in
theorem c_X0_fits (l : Launch) (D : va_G) (cy : ClassId) (kS vS : Nat)   (x0 x1 x2 x3 : Int) (Q : Int → Prop) (h : wX0_fits x0 x1 x2 x3 Q) : MetRs l yX0_fits (wT yX0_fits cX0_fits 4 (some .boolean)) rX0_fits D cy kS vS [.int (iI x0), .int (iI x1), .int (iI x2), .int (iI x3)] ([]) (fun u => (u = 0 ∨ u = 1) ∧ Q u) := by
  refine gI_Rs (by decide) (Nat.le_of_ble_eq_true rfl) ?_
  intro p e s m args below meth c A Qg F hK hA hG ret H locs ls hl hP hS
  have F : CallFix p m c cX0_fits 4 s args gT RX0 := F
  have hl : lv_has ls 4 [(0, .int (iI x0)), (1, .int (iI x1)), (2, .int (iI x2)), (3, .int (iI x3))] := hl
  have L41 : ∀ (y3 : Int) (H : Heap) (locs : List Loc) (ls : Array Slot), wX0_fits_41 Q y3 → va_P D vwCl ([]) H → va_S A s.heap H locs → lv_has ls 4 [(3, .int (iI y3))] → W p l e rX0_fits s m args below meth c H locs 0 0 Qg (F0 m 41 ls []) := by
    intro y3 H locs ls h hP hS hl
    refine lv_iload_n F.1 F.2.1 dX0_fits_41 rfl (lv_at hl 0 rfl) ?_
    refine gv_bipush F ⟨by decide, by decide⟩ dX0_fits_42 ?_
    obtain ⟨g1, h⟩ := h
    refine gv_icmp_lt (tgt := 57) F g1 ⟨by decide, by decide⟩ dX0_fits_44 (by decide) (fun c2 => ?_) (fun c2 => ?_)
    · have h := h.1 c2
      refine gv_iconst F dX0_fits_57 ?_
      exact ret 0 H locs 58 ls ⟨Or.inl rfl, h⟩ rfl hS dX0_fits_58
    · have h := h.2 c2
      refine lv_iload_n F.1 F.2.1 dX0_fits_47 rfl (lv_at hl 0 rfl) ?_
      refine gv_bipush F ⟨by decide, by decide⟩ dX0_fits_48 ?_
      refine gv_icmp_gt (tgt := 57) F g1 ⟨by decide, by decide⟩ dX0_fits_50 (by decide) (fun c3 => ?_) (fun c3 => ?_)
      · have h := h.1 c3
        refine gv_iconst F dX0_fits_57 ?_
        exact ret 0 H locs 58 ls ⟨Or.inl rfl, h⟩ rfl hS dX0_fits_58
      · have h := h.2 c3
        refine gv_iconst F dX0_fits_53 ?_
        refine lv_goto (tgt := 58) F.1 F.2.1 dX0_fits_54 (by decide) ?_
        exact ret 1 H locs 58 ls ⟨Or.inr rfl, h⟩ rfl hS dX0_fits_58
  refine lv_iload_n F.1 F.2.1 dX0_fits_0 rfl (lv_at hl 1 rfl) ?_
  refine lv_iload_n F.1 F.2.1 dX0_fits_1 rfl (lv_at hl 2 rfl) ?_
  obtain ⟨g4, h⟩ := h
  obtain ⟨g5, h⟩ := h
  refine gv_icmp_le (tgt := 17) F g4 g5 dX0_fits_2 (by decide) (fun c6 => ?_) (fun c6 => ?_)
  · have h := h.1 c6
    refine lv_iload_n F.1 F.2.1 dX0_fits_17 rfl (lv_at hl 0 rfl) ?_
    refine gv_bipush F ⟨by decide, by decide⟩ dX0_fits_18 ?_
    obtain ⟨g7, h⟩ := h
    refine gv_icmp_ne (tgt := 41) F g7 ⟨by decide, by decide⟩ dX0_fits_20 (by decide) (fun c8 => ?_) (fun c8 => ?_)
    · have h := h.1 c8
      exact L41 x3 H locs ls h hP hS (lv_sub hl [3] rfl)
    · have h := h.2 c8
      refine lv_iload_n F.1 F.2.1 dX0_fits_23 rfl (lv_at hl 1 rfl) ?_
      refine gv_iconst F dX0_fits_24 ?_
      refine gv_icmp_ne (tgt := 41) F g4 ⟨by decide, by decide⟩ dX0_fits_25 (by decide) (fun c9 => ?_) (fun c9 => ?_)
      · have h := h.1 c9
        exact L41 x3 H locs ls h hP hS (lv_sub hl [3] rfl)
      · have h := h.2 c9
        refine lv_iload_n F.1 F.2.1 dX0_fits_28 rfl (lv_at hl 3 rfl) ?_
        refine gcs_SR (As := [.int (iI x3)]) F hK hA hP hG hS gPnil (c_X0_kindOf l D cy kS vS x3 _ h) (cwS 1 F.2.2.2.2 (gG_S k254 k255 k66 k256) rfl rfl rfl hd_X0_kindOf ⟨Nat.le_of_ble_eq_true rfl, Nat.le_of_ble_eq_true rfl⟩) dX0_fits_29 rfl rfl hl.1 (Nat.le_of_ble_eq_true rfl) ⟨Nat.le_of_ble_eq_true rfl, Nat.le_of_ble_eq_true rfl⟩ (fun u10 H locs h hP hS => ?_)
        obtain ⟨g11, h⟩ := h
        refine gv_if_lt (tgt := 39) F g11 dX0_fits_32 (by decide) (fun c12 => ?_) (fun c12 => ?_)
        · have h := h.1 c12
          refine gv_iconst F dX0_fits_39 ?_
          exact ret 0 H locs 40 ls ⟨Or.inl rfl, h⟩ rfl hS dX0_fits_40
        · have h := h.2 c12
          refine gv_iconst F dX0_fits_35 ?_
          refine lv_goto (tgt := 40) F.1 F.2.1 dX0_fits_36 (by decide) ?_
          exact ret 1 H locs 40 ls ⟨Or.inr rfl, h⟩ rfl hS dX0_fits_40
  · have h := h.2 c6
    refine lv_iload_n F.1 F.2.1 dX0_fits_5 rfl (lv_at hl 3 rfl) ?_
    refine gv_bipush F ⟨by decide, by decide⟩ dX0_fits_6 ?_
    obtain ⟨g13, h⟩ := h
    refine gv_icmp_ne (tgt := 15) F g13 ⟨by decide, by decide⟩ dX0_fits_8 (by decide) (fun c14 => ?_) (fun c14 => ?_)
    · have h := h.1 c14
      refine gv_iconst F dX0_fits_15 ?_
      exact ret 0 H locs 16 ls ⟨Or.inl rfl, h⟩ rfl hS dX0_fits_16
    · have h := h.2 c14
      refine gv_iconst F dX0_fits_11 ?_
      refine lv_goto (tgt := 16) F.1 F.2.1 dX0_fits_12 (by decide) ?_
      exact ret 1 H locs 16 ls ⟨Or.inr rfl, h⟩ rfl hS dX0_fits_16
abbrev rX0_faultOfStatement : Room := { frames := 6, cells := 0, slots := 0, locals := 134 }
set_option maxHeartbeats 4000000 in
set_option maxRecDepth 20000 in
theorem c_X0_faultOfStatement (l : Launch) (D : va_G) (cy : ClassId) (kS vS : Nat) (ad : Nat → Nat) (lg : AR) (sg : AR) (x1 : Int) (Q : Int → Prop) (h : wX0_faultOfStatement lg sg x1 Q) : MetRs l yX0_faultOfStatement (wT yX0_faultOfStatement cX0_faultOfStatement 5 (some .int)) rX0_faultOfStatement D cy kS vS [.ref (ad 0), .int (iI x1)] (wLe cy ad lg sg) Q := by
  refine gI_Rs (by decide) (Nat.le_of_ble_eq_true rfl) ?_
  intro p e s m args below meth c A Qg F hK hA hG ret H locs ls hl hP hS
  have F : CallFix p m c cX0_faultOfStatement 5 s args gT RX0 := F
  have hl : lv_has ls 5 [(0, .ref (ad 0)), (1, .int (iI x1))] := hl
  have L20 : ∀ (n : Nat) (y1 : Int) (y2 : Int) (y3 : Int) (y4 : Int) (H : Heap) (locs : List Loc) (ls : Array Slot), wX0_faultOfStatement_20 lg sg Q n y1 y2 y3 y4 → va_P D vwCl (wLe cy ad lg sg) H → va_S A s.heap H locs → lv_has ls 5 [(0, .ref (ad 0)), (1, .int (iI y1)), (2, .int (iI y2)), (3, .int (iI y3)), (4, .int (iI y4))] → W p l e rX0_faultOfStatement s m args below meth c H locs 0 0 Qg (F0 m 20 ls []) := by
    intro  n
    induction n with
    | zero => intro _ _ _ _ _ _ _ h; exact h.elim
    | succ n ih =>
      intro y1 y2 y3 y4 H locs ls h hP hS hl
      rw [wX0_faultOfStatement_20_s] at h
      refine lv_iload F.1 F.2.1 dX0_faultOfStatement_20 (lv_at hl 4 rfl) ?_
      refine lv_iload_n F.1 F.2.1 dX0_faultOfStatement_22 rfl (lv_at hl 3 rfl) ?_
      refine gv_iconst F dX0_faultOfStatement_23 ?_
      refine gv_iadd F dX0_faultOfStatement_24 ?_
      obtain ⟨g1, h⟩ := h
      obtain ⟨g2, h⟩ := h
      refine gv_icmp_gt (tgt := 68) F g1 g2 dX0_faultOfStatement_25 (by decide) (fun c3 => ?_) (fun c3 => ?_)
      · have h := h.1 c3
        refine gv_bipush F ⟨by decide, by decide⟩ dX0_faultOfStatement_68 ?_
        exact ret (-9) H locs 70 ls h rfl hS dX0_faultOfStatement_70
      · have h := h.2 c3
        refine lv_iload_n F.1 F.2.1 dX0_faultOfStatement_28 rfl (lv_at hl 1 rfl) ?_
        refine lv_iload F.1 F.2.1 dX0_faultOfStatement_29 (lv_at hl 4 rfl) ?_
        refine gv_iadd F dX0_faultOfStatement_31 ?_
        refine lv_aload_n F.1 F.2.1 dX0_faultOfStatement_32 rfl (lv_at hl 0 rfl) ?_
        refine gv_get F hin0 hK hP 0 rfl rfl 1 (by decide) k182 rfl dX0_faultOfStatement_33 ?_
        obtain ⟨g4, h⟩ := h
        obtain ⟨g5, h⟩ := h
        refine gv_icmp_ge (tgt := 57) F g4 g5 dX0_faultOfStatement_36 (by decide) (fun c6 => ?_) (fun c6 => ?_)
        · have h := h.1 c6
          refine lv_iload_n F.1 F.2.1 dX0_faultOfStatement_57 rfl (lv_at hl 1 rfl) ?_
          refine lv_iload F.1 F.2.1 dX0_faultOfStatement_58 (lv_at hl 4 rfl) ?_
          refine gv_iadd F dX0_faultOfStatement_60 ?_
          exact ret (y1 + y4) H locs 61 ls h rfl hS dX0_faultOfStatement_61
        · have h := h.2 c6
          refine lv_iload_n F.1 F.2.1 dX0_faultOfStatement_39 rfl (lv_at hl 2 rfl) ?_
          refine lv_iload F.1 F.2.1 dX0_faultOfStatement_40 (lv_at hl 4 rfl) ?_
          refine lv_iload_n F.1 F.2.1 dX0_faultOfStatement_42 rfl (lv_at hl 3 rfl) ?_
          refine lv_aload_n F.1 F.2.1 dX0_faultOfStatement_43 rfl (lv_at hl 0 rfl) ?_
          refine lv_iload_n F.1 F.2.1 dX0_faultOfStatement_44 rfl (lv_at hl 1 rfl) ?_
          refine lv_iload F.1 F.2.1 dX0_faultOfStatement_45 (lv_at hl 4 rfl) ?_
          refine gv_iadd F dX0_faultOfStatement_47 ?_
          refine gc_VR (As := [.int (iI (y1 + y4))]) F hK hA hP hS hP (c_X0_at l D cy ad lg sg (y1 + y4) _ h) (cwV 1 F.2.2.2.2 (gG_V k244 k245 k246 k66 k247) rfl rfl rfl hd_X0_at ⟨Nat.le_of_ble_eq_true rfl, Nat.le_of_ble_eq_true rfl⟩) rfl rfl dX0_faultOfStatement_48 rfl rfl hl.1 (Nat.le_of_ble_eq_true rfl) ⟨Nat.le_of_ble_eq_true rfl, Nat.le_of_ble_eq_true rfl⟩ (fun u7 H locs h hP hS => ?_)
          refine gcs_SR (As := [.int (iI y2), .int (iI y4), .int (iI y3), .int (iI u7)]) F hK hA hP hG hS gPnil (c_X0_fits l D cy kS vS y2 y4 y3 u7 _ h) (cwS 4 F.2.2.2.2 (gG_S k251 k252 k66 k253) rfl rfl rfl hd_X0_fits ⟨Nat.le_of_ble_eq_true rfl, Nat.le_of_ble_eq_true rfl⟩) dX0_faultOfStatement_51 rfl rfl hl.1 (Nat.le_of_ble_eq_true rfl) ⟨Nat.le_of_ble_eq_true rfl, Nat.le_of_ble_eq_true rfl⟩ (fun u8 H locs h hP hS => ?_)
          obtain ⟨bu8, h⟩ := h
          refine gv_if_ne (tgt := 62) F (gRb bu8) dX0_faultOfStatement_54 (by decide) (fun c9 => ?_) (fun c9 => ?_)
          · have h := h.1 c9
            obtain ⟨v10, ev10⟩ : ∃ z : Int, z = y4 + 1 := ⟨_, rfl⟩
            have h := h v10 ev10
            refine gv_iinc (lv' := [(4, .int (iI v10)), (0, .ref (ad 0)), (1, .int (iI y1)), (2, .int (iI y2)), (3, .int (iI y3))]) F dX0_faultOfStatement_62 hl (k := 4) rfl ev10 (by decide) rfl (fun ls hl => ?_)
            refine lv_goto (tgt := 20) F.1 F.2.1 dX0_faultOfStatement_65 (by decide) ?_
            exact ih y1 y2 y3 v10 H locs ls h hP hS (lv_sub hl [1, 2, 3, 4, 0] rfl)
          · have h := h.2 c9
            refine lv_iload_n F.1 F.2.1 dX0_faultOfStatement_57 rfl (lv_at hl 1 rfl) ?_
            refine lv_iload F.1 F.2.1 dX0_faultOfStatement_58 (lv_at hl 4 rfl) ?_
            refine gv_iadd F dX0_faultOfStatement_60 ?_
            exact ret (y1 + y4) H locs 61 ls h rfl hS dX0_faultOfStatement_61
  refine lv_aload_n F.1 F.2.1 dX0_faultOfStatement_0 rfl (lv_at hl 0 rfl) ?_
  refine lv_iload_n F.1 F.2.1 dX0_faultOfStatement_1 rfl (lv_at hl 1 rfl) ?_
  refine gc_VR (As := [.int (iI x1)]) F hK hA hP hS hP (c_X0_at l D cy ad lg sg x1 _ h) (cwV 1 F.2.2.2.2 (gG_V k244 k245 k246 k66 k247) rfl rfl rfl hd_X0_at ⟨Nat.le_of_ble_eq_true rfl, Nat.le_of_ble_eq_true rfl⟩) rfl rfl dX0_faultOfStatement_2 rfl rfl hl.1 (Nat.le_of_ble_eq_true rfl) ⟨Nat.le_of_ble_eq_true rfl, Nat.le_of_ble_eq_true rfl⟩ (fun u11 H locs h hP hS => ?_)
  refine lv_istore_n (lv' := [(2, .int (iI u11)), (0, .ref (ad 0)), (1, .int (iI x1))]) F.1 F.2.1 dX0_faultOfStatement_5 rfl hl (by decide) rfl (fun ls hl => ?_)
  refine lv_iload_n F.1 F.2.1 dX0_faultOfStatement_6 rfl (lv_at hl 0 rfl) ?_
  refine gc_SR (As := [.int (iI u11)]) F hK hA hP hS gPnil (c_X0_signsBehind l D cy u11 _ h) (cwS 1 F.2.2.2.2 (gG_S k248 k249 k66 k250) rfl rfl rfl hd_X0_signsBehind ⟨Nat.le_of_ble_eq_true rfl, Nat.le_of_ble_eq_true rfl⟩) dX0_faultOfStatement_7 rfl rfl hl.1 (Nat.le_of_ble_eq_true rfl) ⟨Nat.le_of_ble_eq_true rfl, Nat.le_of_ble_eq_true rfl⟩ (fun u12 H locs h hP hS => ?_)
  refine lv_istore_n (lv' := [(3, .int (iI u12)), (2, .int (iI u11)), (0, .ref (ad 0)), (1, .int (iI x1))]) F.1 F.2.1 dX0_faultOfStatement_10 rfl hl (by decide) rfl (fun ls hl => ?_)
  refine lv_iload_n F.1 F.2.1 dX0_faultOfStatement_11 rfl (lv_at hl 0 rfl) ?_
  obtain ⟨g13, h⟩ := h
  refine gv_if_ne (tgt := 17) F g13 dX0_faultOfStatement_12 (by decide) (fun c14 => ?_) (fun c14 => ?_)
  · have h := h.1 c14
    refine gv_iconst F dX0_faultOfStatement_17 ?_
    refine lv_istore (lv' := [(4, .int (iI 1)), (3, .int (iI u12)), (2, .int (iI u11)), (0, .ref (ad 0)), (1, .int (iI x1))]) F.1 F.2.1 dX0_faultOfStatement_18 hl (by decide) rfl (fun ls hl => ?_)
    obtain ⟨n15, h⟩ := h
    exact L20 n15 x1 u11 u12 1 H locs ls h hP hS (lv_sub hl [3, 4, 2, 1, 0] rfl)
  · have h := h.2 c14
    refine lv_iload_n F.1 F.2.1 dX0_faultOfStatement_15 rfl (lv_at hl 3 rfl) ?_
    exact ret x1 H locs 16 ls h rfl hS dX0_faultOfStatement_16
abbrev rX0_faultOfForm : Room := { frames := 7, cells := 0, slots := 0, locals := 158 }
set_option maxHeartbeats 4000000 in
set_option maxRecDepth 20000 in
theorem c_X0_faultOfForm (l : Launch) (D : va_G) (cy : ClassId) (kS vS : Nat) (ad : Nat → Nat) (lg : AR) (sg : AR) (Q : Int → Prop) (h : wX0_faultOfForm lg sg Q) : MetRs l yX0_faultOfForm (wT yX0_faultOfForm cX0_faultOfForm 3 (some .int)) rX0_faultOfForm D cy kS vS [.ref (ad 0)] (wLe cy ad lg sg) Q := by
  refine gI_Rs (by decide) (Nat.le_of_ble_eq_true rfl) ?_
  intro p e s m args below meth c A Qg F hK hA hG ret H locs ls hl hP hS
  have F : CallFix p m c cX0_faultOfForm 3 s args gT RX0 := F
  have hl : lv_has ls 3 [(0, .ref (ad 0))] := hl
  have L2 : ∀ (n : Nat) (y1 : Int) (H : Heap) (locs : List Loc) (ls : Array Slot), wX0_faultOfForm_2 lg sg Q n y1 → va_P D vwCl (wLe cy ad lg sg) H → va_S A s.heap H locs → lv_has ls 3 [(0, .ref (ad 0)), (1, .int (iI y1))] → W p l e rX0_faultOfForm s m args below meth c H locs 0 0 Qg (F0 m 2 ls []) := by
    intro  n
    induction n with
    | zero => intro _ _ _ _ h; exact h.elim
    | succ n ih =>
      intro y1 H locs ls h hP hS hl
      rw [wX0_faultOfForm_2_s] at h
      refine lv_aload_n F.1 F.2.1 dX0_faultOfForm_2 rfl (lv_at hl 0 rfl) ?_
      refine lv_iload_n F.1 F.2.1 dX0_faultOfForm_3 rfl (lv_at hl 1 rfl) ?_
      refine gcs_VR (As := [.int (iI y1)]) F hK hA hP hG hS hP (c_X0_faultOfStatement l D cy kS vS ad lg sg y1 _ h) (cwV 1 F.2.2.2.2 (gG_V k240 k242 k3 k66 k243) rfl rfl rfl hd_X0_faultOfStatement ⟨Nat.le_of_ble_eq_true rfl, Nat.le_of_ble_eq_true rfl⟩) rfl rfl dX0_faultOfForm_4 rfl rfl hl.1 (Nat.le_of_ble_eq_true rfl) ⟨Nat.le_of_ble_eq_true rfl, Nat.le_of_ble_eq_true rfl⟩ (fun u1 H locs h hP hS => ?_)
      refine lv_istore_n (lv' := [(2, .int (iI u1)), (0, .ref (ad 0)), (1, .int (iI y1))]) F.1 F.2.1 dX0_faultOfForm_7 rfl hl (by decide) rfl (fun ls hl => ?_)
      refine lv_iload_n F.1 F.2.1 dX0_faultOfForm_8 rfl (lv_at hl 0 rfl) ?_
      refine gv_bipush F ⟨by decide, by decide⟩ dX0_faultOfForm_9 ?_
      obtain ⟨g2, h⟩ := h
      refine gv_icmp_eq (tgt := 16) F g2 ⟨by decide, by decide⟩ dX0_faultOfForm_11 (by decide) (fun c3 => ?_) (fun c3 => ?_)
      · have h := h.1 c3
        refine lv_iload_n F.1 F.2.1 dX0_faultOfForm_16 rfl (lv_at hl 2 rfl) ?_
        refine lv_aload_n F.1 F.2.1 dX0_faultOfForm_17 rfl (lv_at hl 1 rfl) ?_
        refine lv_iload_n F.1 F.2.1 dX0_faultOfForm_18 rfl (lv_at hl 2 rfl) ?_
        refine gc_VR (As := [.int (iI y1)]) F hK hA hP hS hP (c_X0_at l D cy ad lg sg y1 _ h) (cwV 1 F.2.2.2.2 (gG_V k244 k245 k246 k66 k247) rfl rfl rfl hd_X0_at ⟨Nat.le_of_ble_eq_true rfl, Nat.le_of_ble_eq_true rfl⟩) rfl rfl dX0_faultOfForm_19 rfl rfl hl.1 (Nat.le_of_ble_eq_true rfl) ⟨Nat.le_of_ble_eq_true rfl, Nat.le_of_ble_eq_true rfl⟩ (fun u4 H locs h hP hS => ?_)
        refine gc_SR (As := [.int (iI u4)]) F hK hA hP hS gPnil (c_X0_signsBehind l D cy u4 _ h) (cwS 1 F.2.2.2.2 (gG_S k248 k249 k66 k250) rfl rfl rfl hd_X0_signsBehind ⟨Nat.le_of_ble_eq_true rfl, Nat.le_of_ble_eq_true rfl⟩) dX0_faultOfForm_22 rfl rfl hl.1 (Nat.le_of_ble_eq_true rfl) ⟨Nat.le_of_ble_eq_true rfl, Nat.le_of_ble_eq_true rfl⟩ (fun u5 H locs h hP hS => ?_)
        refine gv_iconst F dX0_faultOfForm_25 ?_
        refine gv_iadd F dX0_faultOfForm_26 ?_
        refine gv_iadd F dX0_faultOfForm_27 ?_
        refine gv_name (fun v6 ev6 => ?_)
        have h := h v6 ev6
        refine lv_istore_n (lv' := [(1, .int (iI v6)), (2, .int (iI u1)), (0, .ref (ad 0))]) F.1 F.2.1 dX0_faultOfForm_28 rfl hl (by decide) rfl (fun ls hl => ?_)
        refine lv_iload_n F.1 F.2.1 dX0_faultOfForm_29 rfl (lv_at hl 0 rfl) ?_
        refine lv_aload_n F.1 F.2.1 dX0_faultOfForm_30 rfl (lv_at hl 2 rfl) ?_
        refine gv_get F hin0 hK hP 0 rfl rfl 1 (by decide) k182 rfl dX0_faultOfForm_31 ?_
        obtain ⟨g7, h⟩ := h
        obtain ⟨g8, h⟩ := h
        refine gv_icmp_lt (tgt := 2) F g7 g8 dX0_faultOfForm_34 (by decide) (fun c9 => ?_) (fun c9 => ?_)
        · have h := h.1 c9
          exact ih v6 H locs ls h hP hS (lv_sub hl [2, 0] rfl)
        · have h := h.2 c9
          refine gv_bipush F ⟨by decide, by decide⟩ dX0_faultOfForm_37 ?_
          exact ret (-9) H locs 39 ls h rfl hS dX0_faultOfForm_39
      · have h := h.2 c3
        refine lv_iload_n F.1 F.2.1 dX0_faultOfForm_14 rfl (lv_at hl 0 rfl) ?_
        exact ret u1 H locs 15 ls h rfl hS dX0_faultOfForm_15
  refine gv_iconst F dX0_faultOfForm_0 ?_
  refine lv_istore_n (lv' := [(1, .int (iI 0)), (0, .ref (ad 0))]) F.1 F.2.1 dX0_faultOfForm_1 rfl hl (by decide) rfl (fun ls hl => ?_)
  obtain ⟨n10, h⟩ := h
  exact L2 n10 0 H locs ls h hP hS (lv_sub hl [1, 0] rfl)
