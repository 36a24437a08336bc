abbrev rX4_doneBy : Room := { frames := 6, cells := 0, slots := 0, locals := 140 }
set_option maxHeartbeats 4000000 in
set_option maxRecDepth 20000 in
theorem c_X4_doneBy (l : Launch) (D : va_G) (cy : ClassId) (ad : Nat → Nat) (o : AR) (ss : AR) (mm : AR) (im : AR) (wa : AR) (le : AR) (ro : AR) (re : AR) (fa : AR) (nu : AR) (x1 x2 x3 x4 x5 : Int) (Q : Int → AR → AR → Prop) (h : wX4_doneBy ss mm fa x1 x2 x3 x4 x5 Q) : MetI l yX4_doneBy (wT yX4_doneBy cX4_doneBy 6 (some .int)) rX4_doneBy D cy [.ref (ad 0), .int (iI x1), .int (iI x2), .int (iI x3), .int (iI x4), .int (iI x5)] (wMd cy ad o ss mm im wa le ro re fa nu) (fun u : AR × AR => wMd cy ad o ss u.1 im wa le ro re u.2 nu) (fun r u => Q r u.1 u.2) := by
  refine gI_I (by decide) (Nat.le_of_ble_eq_true rfl) ?_
  intro p e s m args below meth c A Qg F hK hA ret H locs ls hl hP hD hS
  have F : CallFix p m c cX4_doneBy 6 s args gT RX4 := F
  have hl : lv_has ls 6 [(0, .ref (ad 0)), (1, .int (iI x1)), (2, .int (iI x2)), (3, .int (iI x3)), (4, .int (iI x4)), (5, .int (iI x5))] := hl
  refine lv_aload_n F.1 F.2.1 dX4_doneBy_0 rfl (lv_at hl 0 rfl) ?_
  refine gv_get F hin4 hK hP 0 rfl rfl 0 (by decide) k756 rfl dX4_doneBy_1 ?_
  refine lv_aload_n F.1 F.2.1 dX4_doneBy_4 rfl (lv_at hl 0 rfl) ?_
  refine gv_get F hin4 hK hP 0 rfl rfl 1 (by decide) k757 rfl dX4_doneBy_5 ?_
  refine gc_SV (As := [.ref (ad 1), .ref (ad 2)]) (wn := fun u : AR => wMd cy ad o ss u im wa le ro re fa nu) F hK hA hP hD hS (cp_md_s_m hP) (cd_md_s_m hD) (fun u H1 hk h1 _ => cj_md_s_m hP hD u H1 hk h1) (c_X4_lays l D cy (ad 1) (ad 2) ss mm _ h) (cwS 2 F.2.2.2.2 (gG_S k842 k843 k67 k844) rfl rfl rfl hd_X4_lays ⟨Nat.le_of_ble_eq_true rfl, Nat.le_of_ble_eq_true rfl⟩) dX4_doneBy_8 rfl rfl hl.1 (Nat.le_of_ble_eq_true rfl) ⟨Nat.le_of_ble_eq_true rfl, Nat.le_of_ble_eq_true rfl⟩ (fun z1 H locs h hP hD hS => ?_)
  try dsimp only at h hP hD
  refine lv_aload_n F.1 F.2.1 dX4_doneBy_11 rfl (lv_at hl 0 rfl) ?_
  refine gv_get F hin4 hK hP 0 rfl rfl 1 (by decide) k757 rfl dX4_doneBy_12 ?_
  refine lv_iload_n F.1 F.2.1 dX4_doneBy_15 rfl (lv_at hl 2 rfl) ?_
  refine gv_iconst F dX4_doneBy_16 ?_
  refine gc_SR (As := [.int (iI x2), .int (iI 2)]) F hK hA hP hS gPnil (c_X4_of l D cy x2 2 _ h) (cwS 2 F.2.2.2.2 (gG_S k862 k863 k67 k864) rfl rfl rfl hd_X4_of ⟨Nat.le_of_ble_eq_true rfl, Nat.le_of_ble_eq_true rfl⟩) dX4_doneBy_17 rfl rfl hl.1 (Nat.le_of_ble_eq_true rfl) ⟨Nat.le_of_ble_eq_true rfl, Nat.le_of_ble_eq_true rfl⟩ (fun u2 H locs h hP hS => ?_)
  refine lv_aload_n F.1 F.2.1 dX4_doneBy_20 rfl (lv_at hl 0 rfl) ?_
  refine gv_get F hin4 hK hP 0 rfl rfl 0 (by decide) k756 rfl dX4_doneBy_21 ?_
  refine lv_iload_n F.1 F.2.1 dX4_doneBy_24 rfl (lv_at hl 2 rfl) ?_
  refine gv_iconst F dX4_doneBy_25 ?_
  refine gc_SR (As := [.int (iI x2), .int (iI 2)]) F hK hA hP hS gPnil (c_X4_of l D cy x2 2 _ h) (cwS 2 F.2.2.2.2 (gG_S k862 k863 k67 k864) rfl rfl rfl hd_X4_of ⟨Nat.le_of_ble_eq_true rfl, Nat.le_of_ble_eq_true rfl⟩) dX4_doneBy_26 rfl rfl hl.1 (Nat.le_of_ble_eq_true rfl) ⟨Nat.le_of_ble_eq_true rfl, Nat.le_of_ble_eq_true rfl⟩ (fun u3 H locs h hP hS => ?_)
  obtain ⟨g4, h⟩ := h
  refine gv_iald (n := 147) (g := ss) F hK hP 1 rfl rfl (by decide) g4 dX4_doneBy_29 ?_
  refine lv_iload_n F.1 F.2.1 dX4_doneBy_30 rfl (lv_at hl 3 rfl) ?_
  refine gv_iadd F dX4_doneBy_31 ?_
  refine gv_bipush F ⟨by decide, by decide⟩ dX4_doneBy_32 ?_
  obtain ⟨g5, h⟩ := h
  refine gv_irem F ⟨g5, by decide, by decide⟩ dX4_doneBy_34 ?_
  obtain ⟨g6, h⟩ := h
  obtain ⟨z7, ez7⟩ : ∃ z : AR, z = su z1 u2 (((ss u3) + x3) % 8) := ⟨_, rfl⟩
  have h := h z7 ez7
  refine gv_iast (n := 147) (g := z1) (ws' := wMd cy ad o ss z7 im wa le ro re fa nu) F hK hP hD hS 2 rfl rfl (by decide) g6 (by subst ez7; exact rfl) dX4_doneBy_35 (fun H locs hP hD hS => ?_)
  refine lv_aload_n F.1 F.2.1 dX4_doneBy_36 rfl (lv_at hl 0 rfl) ?_
  refine gv_get F hin4 hK hP 0 rfl rfl 1 (by decide) k757 rfl dX4_doneBy_37 ?_
  refine lv_iload F.1 F.2.1 dX4_doneBy_40 (lv_at hl 4 rfl) ?_
  refine gv_iconst F dX4_doneBy_42 ?_
  refine gc_SR (As := [.int (iI x4), .int (iI 2)]) F hK hA hP hS gPnil (c_X4_of l D cy x4 2 _ h) (cwS 2 F.2.2.2.2 (gG_S k862 k863 k67 k864) rfl rfl rfl hd_X4_of ⟨Nat.le_of_ble_eq_true rfl, Nat.le_of_ble_eq_true rfl⟩) dX4_doneBy_43 rfl rfl hl.1 (Nat.le_of_ble_eq_true rfl) ⟨Nat.le_of_ble_eq_true rfl, Nat.le_of_ble_eq_true rfl⟩ (fun u8 H locs h hP hS => ?_)
  refine lv_aload_n F.1 F.2.1 dX4_doneBy_46 rfl (lv_at hl 0 rfl) ?_
  refine gv_get F hin4 hK hP 0 rfl rfl 0 (by decide) k756 rfl dX4_doneBy_47 ?_
  refine lv_iload F.1 F.2.1 dX4_doneBy_50 (lv_at hl 4 rfl) ?_
  refine gv_iconst F dX4_doneBy_52 ?_
  refine gc_SR (As := [.int (iI x4), .int (iI 2)]) F hK hA hP hS gPnil (c_X4_of l D cy x4 2 _ h) (cwS 2 F.2.2.2.2 (gG_S k862 k863 k67 k864) rfl rfl rfl hd_X4_of ⟨Nat.le_of_ble_eq_true rfl, Nat.le_of_ble_eq_true rfl⟩) dX4_doneBy_53 rfl rfl hl.1 (Nat.le_of_ble_eq_true rfl) ⟨Nat.le_of_ble_eq_true rfl, Nat.le_of_ble_eq_true rfl⟩ (fun u9 H locs h hP hS => ?_)
  obtain ⟨g10, h⟩ := h
  refine gv_iald (n := 147) (g := ss) F hK hP 1 rfl rfl (by decide) g10 dX4_doneBy_56 ?_
  refine lv_iload F.1 F.2.1 dX4_doneBy_57 (lv_at hl 5 rfl) ?_
  refine gv_iadd F dX4_doneBy_59 ?_
  refine gv_bipush F ⟨by decide, by decide⟩ dX4_doneBy_60 ?_
  obtain ⟨g11, h⟩ := h
  refine gv_irem F ⟨g11, by decide, by decide⟩ dX4_doneBy_62 ?_
  obtain ⟨g12, h⟩ := h
  obtain ⟨z13, ez13⟩ : ∃ z : AR, z = su z7 u8 (((ss u9) + x5) % 8) := ⟨_, rfl⟩
  have h := h z13 ez13
  refine gv_iast (n := 147) (g := z7) (ws' := wMd cy ad o ss z13 im wa le ro re fa nu) F hK hP hD hS 2 rfl rfl (by decide) g12 (by subst ez13; exact rfl) dX4_doneBy_63 (fun H locs hP hD hS => ?_)
  refine lv_aload_n F.1 F.2.1 dX4_doneBy_64 rfl (lv_at hl 0 rfl) ?_
  refine lv_aload_n F.1 F.2.1 dX4_doneBy_65 rfl (lv_at hl 0 rfl) ?_
  refine lv_iload_n F.1 F.2.1 dX4_doneBy_66 rfl (lv_at hl 1 rfl) ?_
  refine gc_VI (As := [.int (iI x1)]) (wn := fun u : AR × AR => wMd cy ad o ss u.1 im wa le ro re u.2 nu) F hK hA hP hD hS hP hD (fun u H1 _ h1 h2 => ⟨h1, h2⟩) (c_X4_doneIn l D cy ad o ss z13 im wa le ro re fa nu x1 _ h) (cwV 1 F.2.2.2.2 (gG_V k980 k982 k51 k67 k983) rfl rfl rfl hd_X4_doneIn ⟨Nat.le_of_ble_eq_true rfl, Nat.le_of_ble_eq_true rfl⟩) rfl rfl dX4_doneBy_67 rfl rfl hl.1 (Nat.le_of_ble_eq_true rfl) ⟨Nat.le_of_ble_eq_true rfl, Nat.le_of_ble_eq_true rfl⟩ (fun u16 u H locs h hP hD hS => ?_)
  obtain ⟨z14, z15⟩ := u
  try dsimp only at h hP hD
  refine gc_VR (As := [.int (iI u16)]) F hK hA hP hS hP (c_X4_orNever l D cy ad o ss z14 im wa le ro re z15 nu u16 _ h) (cwV 1 F.2.2.2.2 (gG_V k1053 k1055 k56 k67 k1056) rfl rfl rfl hd_X4_orNever ⟨Nat.le_of_ble_eq_true rfl, Nat.le_of_ble_eq_true rfl⟩) rfl rfl dX4_doneBy_70 rfl rfl hl.1 (Nat.le_of_ble_eq_true rfl) ⟨Nat.le_of_ble_eq_true rfl, Nat.le_of_ble_eq_true rfl⟩ (fun u17 H locs h hP hS => ?_)
  exact ret u17 (z14, z15) H locs 73 ls h rfl hP hD hS dX4_doneBy_73
abbrev rX4_two : Room := { frames := 7, cells := 0, slots := 0, locals := 165 }
set_option maxHeartbeats 4000000 in
set_option maxRecDepth 20000 in
theorem c_X4_two (l : Launch) (D : va_G) (cy : ClassId) (ad : Nat → Nat) (o : AR) (ss : AR) (mm : AR) (im : AR) (wa : AR) (le : AR) (ro : AR) (re : AR) (fa : AR) (nu : AR) (x1 x2 : Int) (Q : Int → AR → AR → AR → Prop) (h : wX4_two ss mm re fa x1 x2 Q) : MetI l yX4_two (wT yX4_two cX4_two 6 (some .int)) rX4_two D cy [.ref (ad 0), .int (iI x1), .int (iI x2)] (wMd cy ad o ss mm im wa le ro re fa nu) (fun u : AR × AR × AR => wMd cy ad o ss u.1 im wa le ro u.2.1 u.2.2 nu) (fun r u => Q r u.1 u.2.1 u.2.2) := by
  refine gI_I (by decide) (Nat.le_of_ble_eq_true rfl) ?_
  intro p e s m args below meth c A Qg F hK hA ret H locs ls hl hP hD hS
  have F : CallFix p m c cX4_two 6 s args gT RX4 := F
  have hl : lv_has ls 6 [(0, .ref (ad 0)), (1, .int (iI x1)), (2, .int (iI x2))] := hl
  have L29 : ∀ (n : Nat) (y1 : Int) (y2 : Int) (y3 : Int) (mm : AR) (re : AR) (fa : AR) (H : Heap) (locs : List Loc) (ls : Array Slot), wX4_two_29 ss Q n y1 y2 y3 mm re fa → va_P D vwCl (wMd cy ad o ss mm im wa le ro re fa nu) H → va_D A (wMd cy ad o ss mm im wa le ro re fa nu) → va_S A s.heap H locs → lv_has ls 6 [(0, .ref (ad 0)), (1, .int (iI y1)), (2, .int (iI y2)), (3, .int (iI y3))] → W p l e rX4_two s m args below meth c H locs 0 0 Qg (F0 m 29 ls []) := by
    intro  n
    induction n with
    | zero => intro _ _ _ _ _ _ _ _ _ h; exact h.elim
    | succ n ih =>
      intro y1 y2 y3 mm re fa H locs ls h hP hD hS hl
      rw [wX4_two_29_s] at h
      refine lv_iload_n F.1 F.2.1 dX4_two_29 rfl (lv_at hl 3 rfl) ?_
      refine gv_iconst F dX4_two_30 ?_
      obtain ⟨g1, h⟩ := h
      refine gv_icmp_ge (tgt := 116) F g1 ⟨by decide, by decide⟩ dX4_two_31 (by decide) (fun c2 => ?_) (fun c2 => ?_)
      · have h := h.1 c2
        refine gv_bipush F ⟨by decide, by decide⟩ dX4_two_116 ?_
        exact ret (-9) (mm, re, fa) H locs 118 ls h rfl hP hD hS dX4_two_118
      · have h := h.2 c2
        refine lv_iload_n F.1 F.2.1 dX4_two_34 rfl (lv_at hl 3 rfl) ?_
        refine gv_iconst F dX4_two_35 ?_
        obtain ⟨g3, h⟩ := h
        refine gv_idiv F ⟨g3, by decide, by decide⟩ dX4_two_36 ?_
        refine gv_name (fun v4 ev4 => ?_)
        have h := h v4 ev4
        refine lv_istore (lv' := [(4, .int (iI v4)), (0, .ref (ad 0)), (1, .int (iI y1)), (2, .int (iI y2)), (3, .int (iI y3))]) F.1 F.2.1 dX4_two_37 hl (by decide) rfl (fun ls hl => ?_)
        refine lv_iload_n F.1 F.2.1 dX4_two_39 rfl (lv_at hl 4 rfl) ?_
        refine gv_iconst F dX4_two_40 ?_
        obtain ⟨g5, h⟩ := h
        refine gv_irem F ⟨g5, by decide, by decide⟩ dX4_two_41 ?_
        refine gv_name (fun v6 ev6 => ?_)
        have h := h v6 ev6
        refine lv_istore (lv' := [(5, .int (iI v6)), (4, .int (iI v4)), (0, .ref (ad 0)), (1, .int (iI y1)), (2, .int (iI y2)), (3, .int (iI y3))]) F.1 F.2.1 dX4_two_42 hl (by decide) rfl (fun ls hl => ?_)
        refine lv_aload_n F.1 F.2.1 dX4_two_44 rfl (lv_at hl 2 rfl) ?_
        refine lv_iload_n F.1 F.2.1 dX4_two_45 rfl (lv_at hl 3 rfl) ?_
        refine lv_iload_n F.1 F.2.1 dX4_two_46 rfl (lv_at hl 3 rfl) ?_
        refine gv_iconst F dX4_two_47 ?_
        refine lv_iload F.1 F.2.1 dX4_two_48 (lv_at hl 1 rfl) ?_
        refine gv_isub F dX4_two_50 ?_
        refine lv_iload_n F.1 F.2.1 dX4_two_51 rfl (lv_at hl 4 rfl) ?_
        refine lv_iload F.1 F.2.1 dX4_two_52 (lv_at hl 0 rfl) ?_
        refine gc_VI (As := [.int (iI y1), .int (iI y1), .int (iI (1 - v4)), .int (iI y2), .int (iI v6)]) (wn := fun u : AR × AR => wMd cy ad o ss u.1 im wa le ro re u.2 nu) F hK hA hP hD hS hP hD (fun u H1 _ h1 h2 => ⟨h1, h2⟩) (c_X4_doneBy l D cy ad o ss mm im wa le ro re fa nu y1 y1 (1 - v4) y2 v6 _ h) (cwV 5 F.2.2.2.2 (gG_V k1061 k1063 k57 k67 k1064) rfl rfl rfl hd_X4_doneBy ⟨Nat.le_of_ble_eq_true rfl, Nat.le_of_ble_eq_true rfl⟩) rfl rfl dX4_two_54 rfl rfl hl.1 (Nat.le_of_ble_eq_true rfl) ⟨Nat.le_of_ble_eq_true rfl, Nat.le_of_ble_eq_true rfl⟩ (fun u9 u H locs h hP hD hS => ?_)
        obtain ⟨z7, z8⟩ := u
        try dsimp only at h hP hD
        refine lv_aload_n F.1 F.2.1 dX4_two_57 rfl (lv_at hl 2 rfl) ?_
        refine lv_iload_n F.1 F.2.1 dX4_two_58 rfl (lv_at hl 3 rfl) ?_
        refine lv_iload_n F.1 F.2.1 dX4_two_59 rfl (lv_at hl 3 rfl) ?_
        refine lv_iload F.1 F.2.1 dX4_two_60 (lv_at hl 1 rfl) ?_
        refine lv_iload_n F.1 F.2.1 dX4_two_62 rfl (lv_at hl 4 rfl) ?_
        refine lv_iload F.1 F.2.1 dX4_two_63 (lv_at hl 0 rfl) ?_
        refine gc_VI (As := [.int (iI y1), .int (iI y1), .int (iI v4), .int (iI y2), .int (iI v6)]) (wn := fun u : AR × AR => wMd cy ad o ss u.1 im wa le ro re u.2 nu) F hK hA hP hD hS hP hD (fun u H1 _ h1 h2 => ⟨h1, h2⟩) (c_X4_doneBy l D cy ad o ss z7 im wa le ro re z8 nu y1 y1 v4 y2 v6 _ h) (cwV 5 F.2.2.2.2 (gG_V k1061 k1063 k57 k67 k1064) rfl rfl rfl hd_X4_doneBy ⟨Nat.le_of_ble_eq_true rfl, Nat.le_of_ble_eq_true rfl⟩) rfl rfl dX4_two_65 rfl rfl hl.1 (Nat.le_of_ble_eq_true rfl) ⟨Nat.le_of_ble_eq_true rfl, Nat.le_of_ble_eq_true rfl⟩ (fun u12 u H locs h hP hD hS => ?_)
        obtain ⟨z10, z11⟩ := u
        try dsimp only at h hP hD
        obtain ⟨g13, h⟩ := h
        obtain ⟨g14, h⟩ := h
        refine gv_icmp_ge (tgt := 74) F g13 g14 dX4_two_68 (by decide) (fun c15 => ?_) (fun c15 => ?_)
        · have h := h.1 c15
          refine lv_aload_n F.1 F.2.1 dX4_two_74 rfl (lv_at hl 2 rfl) ?_
          refine lv_iload_n F.1 F.2.1 dX4_two_75 rfl (lv_at hl 4 rfl) ?_
          refine lv_iload_n F.1 F.2.1 dX4_two_76 rfl (lv_at hl 3 rfl) ?_
          refine lv_iload F.1 F.2.1 dX4_two_77 (lv_at hl 1 rfl) ?_
          refine lv_iload_n F.1 F.2.1 dX4_two_79 rfl (lv_at hl 4 rfl) ?_
          refine gv_iconst F dX4_two_80 ?_
          refine lv_iload F.1 F.2.1 dX4_two_81 (lv_at hl 0 rfl) ?_
          refine gv_isub F dX4_two_83 ?_
          refine gc_VI (As := [.int (iI y2), .int (iI y1), .int (iI v4), .int (iI y2), .int (iI (1 - v6))]) (wn := fun u : AR × AR => wMd cy ad o ss u.1 im wa le ro re u.2 nu) F hK hA hP hD hS hP hD (fun u H1 _ h1 h2 => ⟨h1, h2⟩) (c_X4_doneBy l D cy ad o ss z10 im wa le ro re z11 nu y2 y1 v4 y2 (1 - v6) _ h) (cwV 5 F.2.2.2.2 (gG_V k1061 k1063 k57 k67 k1064) rfl rfl rfl hd_X4_doneBy ⟨Nat.le_of_ble_eq_true rfl, Nat.le_of_ble_eq_true rfl⟩) rfl rfl dX4_two_84 rfl rfl hl.1 (Nat.le_of_ble_eq_true rfl) ⟨Nat.le_of_ble_eq_true rfl, Nat.le_of_ble_eq_true rfl⟩ (fun u18 u H locs h hP hD hS => ?_)
          obtain ⟨z16, z17⟩ := u
          try dsimp only at h hP hD
          refine lv_aload_n F.1 F.2.1 dX4_two_87 rfl (lv_at hl 2 rfl) ?_
          refine lv_iload_n F.1 F.2.1 dX4_two_88 rfl (lv_at hl 4 rfl) ?_
          refine lv_iload_n F.1 F.2.1 dX4_two_89 rfl (lv_at hl 3 rfl) ?_
          refine lv_iload F.1 F.2.1 dX4_two_90 (lv_at hl 1 rfl) ?_
          refine lv_iload_n F.1 F.2.1 dX4_two_92 rfl (lv_at hl 4 rfl) ?_
          refine lv_iload F.1 F.2.1 dX4_two_93 (lv_at hl 0 rfl) ?_
          refine gc_VI (As := [.int (iI y2), .int (iI y1), .int (iI v4), .int (iI y2), .int (iI v6)]) (wn := fun u : AR × AR => wMd cy ad o ss u.1 im wa le ro re u.2 nu) F hK hA hP hD hS hP hD (fun u H1 _ h1 h2 => ⟨h1, h2⟩) (c_X4_doneBy l D cy ad o ss z16 im wa le ro re z17 nu y2 y1 v4 y2 v6 _ h) (cwV 5 F.2.2.2.2 (gG_V k1061 k1063 k57 k67 k1064) rfl rfl rfl hd_X4_doneBy ⟨Nat.le_of_ble_eq_true rfl, Nat.le_of_ble_eq_true rfl⟩) rfl rfl dX4_two_95 rfl rfl hl.1 (Nat.le_of_ble_eq_true rfl) ⟨Nat.le_of_ble_eq_true rfl, Nat.le_of_ble_eq_true rfl⟩ (fun u21 u H locs h hP hD hS => ?_)
          obtain ⟨z19, z20⟩ := u
          try dsimp only at h hP hD
          obtain ⟨g22, h⟩ := h
          obtain ⟨g23, h⟩ := h
          refine gv_icmp_lt (tgt := 110) F g22 g23 dX4_two_98 (by decide) (fun c24 => ?_) (fun c24 => ?_)
          · have h := h.1 c24
            obtain ⟨v25, ev25⟩ : ∃ z : Int, z = y3 + 1 := ⟨_, rfl⟩
            have h := h v25 ev25
            refine gv_iinc (lv' := [(3, .int (iI v25)), (5, .int (iI v6)), (4, .int (iI v4)), (0, .ref (ad 0)), (1, .int (iI y1)), (2, .int (iI y2))]) F dX4_two_110 hl (k := 5) rfl ev25 (by decide) rfl (fun ls hl => ?_)
            refine lv_goto (tgt := 29) F.1 F.2.1 dX4_two_113 (by decide) ?_
            exact ih y1 y2 v25 z19 re z20 H locs ls h hP hD hS (lv_sub hl [3, 4, 5, 0] rfl)
          · have h := h.2 c24
            refine gv_bipush F ⟨by decide, by decide⟩ dX4_two_101 ?_
            refine lv_iload F.1 F.2.1 dX4_two_103 (lv_at hl 1 rfl) ?_
            refine gv_imul F dX4_two_105 ?_
            refine lv_iload F.1 F.2.1 dX4_two_106 (lv_at hl 0 rfl) ?_
            refine gv_iadd F dX4_two_108 ?_
            exact ret ((10 * v4) + v6) (z19, re, z20) H locs 109 ls h rfl hP hD hS dX4_two_109
        · have h := h.2 c15
          refine lv_goto (tgt := 110) F.1 F.2.1 dX4_two_71 (by decide) ?_
          obtain ⟨v26, ev26⟩ : ∃ z : Int, z = y3 + 1 := ⟨_, rfl⟩
          have h := h v26 ev26
          refine gv_iinc (lv' := [(3, .int (iI v26)), (5, .int (iI v6)), (4, .int (iI v4)), (0, .ref (ad 0)), (1, .int (iI y1)), (2, .int (iI y2))]) F dX4_two_110 hl (k := 5) rfl ev26 (by decide) rfl (fun ls hl => ?_)
          refine lv_goto (tgt := 29) F.1 F.2.1 dX4_two_113 (by decide) ?_
          exact ih y1 y2 v26 z10 re z11 H locs ls h hP hD hS (lv_sub hl [3, 4, 5, 0] rfl)
  refine lv_aload_n F.1 F.2.1 dX4_two_0 rfl (lv_at hl 0 rfl) ?_
  refine lv_iload_n F.1 F.2.1 dX4_two_1 rfl (lv_at hl 1 rfl) ?_
  refine gc_VR (As := [.int (iI x1)]) F hK hA hP hS hP (c_X4_isGroup l D cy ad o ss mm im wa le ro re fa nu x1 _ h) (cwV 1 F.2.2.2.2 (gG_V k865 k867 k41 k67 k868) rfl rfl rfl hd_X4_isGroup ⟨Nat.le_of_ble_eq_true rfl, Nat.le_of_ble_eq_true rfl⟩) rfl rfl dX4_two_2 rfl rfl hl.1 (Nat.le_of_ble_eq_true rfl) ⟨Nat.le_of_ble_eq_true rfl, Nat.le_of_ble_eq_true rfl⟩ (fun u27 H locs h hP hS => ?_)
  obtain ⟨bu27, h⟩ := h
  refine gv_if_eq (tgt := 21) F (gRb bu27) dX4_two_5 (by decide) (fun c28 => ?_) (fun c28 => ?_)
  · have h := h.1 c28
    refine lv_aload_n F.1 F.2.1 dX4_two_21 rfl (lv_at hl 0 rfl) ?_
    refine gv_iconst F dX4_two_22 ?_
    refine gc_VI (As := [.int (iI (-1))]) (wn := fun u : AR => wMd cy ad o ss mm im wa le ro u fa nu) F hK hA hP hD hS hP hD (fun u H1 _ h1 h2 => ⟨h1, h2⟩) (c_X4_no l D cy ad o ss mm im wa le ro re fa nu (-1) _ h) (cwV 1 F.2.2.2.2 (gG_V k812 k814 k34 k67 k815) rfl rfl rfl hd_X4_no ⟨Nat.le_of_ble_eq_true rfl, Nat.le_of_ble_eq_true rfl⟩) rfl rfl dX4_two_23 rfl rfl hl.1 (Nat.le_of_ble_eq_true rfl) ⟨Nat.le_of_ble_eq_true rfl, Nat.le_of_ble_eq_true rfl⟩ (fun u30 z29 H locs h hP hD hS => ?_)
    try dsimp only at h hP hD
    exact ret u30 (mm, z29, fa) H locs 26 ls h rfl hP hD hS dX4_two_26
  · have h := h.2 c28
    refine lv_aload_n F.1 F.2.1 dX4_two_8 rfl (lv_at hl 0 rfl) ?_
    refine lv_iload_n F.1 F.2.1 dX4_two_9 rfl (lv_at hl 2 rfl) ?_
    refine gc_VR (As := [.int (iI x2)]) F hK hA hP hS hP (c_X4_isGroup l D cy ad o ss mm im wa le ro re fa nu x2 _ h) (cwV 1 F.2.2.2.2 (gG_V k865 k867 k41 k67 k868) rfl rfl rfl hd_X4_isGroup ⟨Nat.le_of_ble_eq_true rfl, Nat.le_of_ble_eq_true rfl⟩) rfl rfl dX4_two_10 rfl rfl hl.1 (Nat.le_of_ble_eq_true rfl) ⟨Nat.le_of_ble_eq_true rfl, Nat.le_of_ble_eq_true rfl⟩ (fun u31 H locs h hP hS => ?_)
    obtain ⟨bu31, h⟩ := h
    refine gv_if_eq (tgt := 21) F (gRb bu31) dX4_two_13 (by decide) (fun c32 => ?_) (fun c32 => ?_)
    · have h := h.1 c32
      refine lv_aload_n F.1 F.2.1 dX4_two_21 rfl (lv_at hl 0 rfl) ?_
      refine gv_iconst F dX4_two_22 ?_
      refine gc_VI (As := [.int (iI (-1))]) (wn := fun u : AR => wMd cy ad o ss mm im wa le ro u fa nu) F hK hA hP hD hS hP hD (fun u H1 _ h1 h2 => ⟨h1, h2⟩) (c_X4_no l D cy ad o ss mm im wa le ro re fa nu (-1) _ h) (cwV 1 F.2.2.2.2 (gG_V k812 k814 k34 k67 k815) rfl rfl rfl hd_X4_no ⟨Nat.le_of_ble_eq_true rfl, Nat.le_of_ble_eq_true rfl⟩) rfl rfl dX4_two_23 rfl rfl hl.1 (Nat.le_of_ble_eq_true rfl) ⟨Nat.le_of_ble_eq_true rfl, Nat.le_of_ble_eq_true rfl⟩ (fun u34 z33 H locs h hP hD hS => ?_)
      try dsimp only at h hP hD
      exact ret u34 (mm, z33, fa) H locs 26 ls h rfl hP hD hS dX4_two_26
    · have h := h.2 c32
      refine lv_iload_n F.1 F.2.1 dX4_two_16 rfl (lv_at hl 1 rfl) ?_
      refine lv_iload_n F.1 F.2.1 dX4_two_17 rfl (lv_at hl 2 rfl) ?_
      obtain ⟨g35, h⟩ := h
      obtain ⟨g36, h⟩ := h
      refine gv_icmp_ne (tgt := 27) F g35 g36 dX4_two_18 (by decide) (fun c37 => ?_) (fun c37 => ?_)
      · have h := h.1 c37
        refine gv_iconst F dX4_two_27 ?_
        refine lv_istore_n (lv' := [(3, .int (iI 0)), (0, .ref (ad 0)), (1, .int (iI x1)), (2, .int (iI x2))]) F.1 F.2.1 dX4_two_28 rfl hl (by decide) rfl (fun ls hl => ?_)
        obtain ⟨n38, h⟩ := h
        exact L29 n38 x1 x2 0 mm re fa H locs ls h hP hD hS (lv_sub hl [1, 2, 3, 0] rfl)
      · have h := h.2 c37
        refine lv_aload_n F.1 F.2.1 dX4_two_21 rfl (lv_at hl 0 rfl) ?_
        refine gv_iconst F dX4_two_22 ?_
        refine gc_VI (As := [.int (iI (-1))]) (wn := fun u : AR => wMd cy ad o ss mm im wa le ro u fa nu) F hK hA hP hD hS hP hD (fun u H1 _ h1 h2 => ⟨h1, h2⟩) (c_X4_no l D cy ad o ss mm im wa le ro re fa nu (-1) _ h) (cwV 1 F.2.2.2.2 (gG_V k812 k814 k34 k67 k815) rfl rfl rfl hd_X4_no ⟨Nat.le_of_ble_eq_true rfl, Nat.le_of_ble_eq_true rfl⟩) rfl rfl dX4_two_23 rfl rfl hl.1 (Nat.le_of_ble_eq_true rfl) ⟨Nat.le_of_ble_eq_true rfl, Nat.le_of_ble_eq_true rfl⟩ (fun u40 z39 H locs h hP hD hS => ?_)
        try dsimp only at h hP hD
        exact ret u40 (mm, z39, fa) H locs 26 ls h rfl hP hD hS dX4_two_26
abbrev rX4_newDoor : Room := { frames := 6, cells := 0, slots := 0, locals := 139 }
set_option maxHeartbeats 4000000 in
set_option maxRecDepth 20000 in
theorem c_X4_newDoor (l : Launch) (D : va_G) (cy : ClassId) (ad : Nat → Nat) (o : AR) (ss : AR) (mm : AR) (im : AR) (wa : AR) (le : AR) (ro : AR) (re : AR) (fa : AR) (nu : AR) (Q : Int → AR → AR → Prop) (h : wX4_newDoor ss mm fa Q) : MetI l yX4_newDoor (wT yX4_newDoor cX4_newDoor 7 (some .int)) rX4_newDoor D cy [.ref (ad 0)] (wMd cy ad o ss mm im wa le ro re fa nu) (fun u : AR × AR => wMd cy ad o ss u.1 im wa le ro re u.2 nu) (fun r u => Q r u.1 u.2) := by
  refine gI_I (by decide) (Nat.le_of_ble_eq_true rfl) ?_
  intro p e s m args below meth c A Qg F hK hA ret H locs ls hl hP hD hS
  have F : CallFix p m c cX4_newDoor 7 s args gT RX4 := F
  have hl : lv_has ls 7 [(0, .ref (ad 0))] := hl
  have L46 : ∀ (K33 : Int → Int → Int → AR → AR → Prop) (hK33 : ∀ (y2 : Int) (y3 : Int) (y4 : Int) (mm : AR) (fa : AR) (H : Heap) (locs : List Loc) (ls : Array Slot), K33 y2 y3 y4 mm fa → va_P D vwCl (wMd cy ad o ss mm im wa le ro re fa nu) H → va_D A (wMd cy ad o ss mm im wa le ro re fa nu) → va_S A s.heap H locs → lv_has ls 7 [(0, .ref (ad 0)), (2, .int (iI y2)), (3, .int (iI y3)), (4, .int (iI y4))] → W p l e rX4_newDoor s m args below meth c H locs 0 0 Qg (F0 m 33 ls [])) (n : Nat) (y2 : Int) (y3 : Int) (y4 : Int) (y5 : Int) (mm : AR) (fa : AR) (H : Heap) (locs : List Loc) (ls : Array Slot), wX4_newDoor_46 ss K33 Q n y2 y3 y4 y5 mm fa → va_P D vwCl (wMd cy ad o ss mm im wa le ro re fa nu) H → va_D A (wMd cy ad o ss mm im wa le ro re fa nu) → va_S A s.heap H locs → lv_has ls 7 [(0, .ref (ad 0)), (2, .int (iI y2)), (3, .int (iI y3)), (4, .int (iI y4)), (5, .int (iI y5))] → W p l e rX4_newDoor s m args below meth c H locs 0 0 Qg (F0 m 46 ls []) := by
    intro K33 hK33 n
    induction n with
    | zero => intro _ _ _ _ _ _ _ _ _ h; exact h.elim
    | succ n ih =>
      intro y2 y3 y4 y5 mm fa H locs ls h hP hD hS hl
      rw [wX4_newDoor_46_s] at h
      refine lv_iload F.1 F.2.1 dX4_newDoor_46 (lv_at hl 4 rfl) ?_
      refine gv_bipush F ⟨by decide, by decide⟩ dX4_newDoor_48 ?_
      obtain ⟨g1, h⟩ := h
      refine gv_icmp_ge (tgt := 155) F g1 ⟨by decide, by decide⟩ dX4_newDoor_50 (by decide) (fun c2 => ?_) (fun c2 => ?_)
      · have h := h.1 c2
        obtain ⟨v3, ev3⟩ : ∃ z : Int, z = y4 + 1 := ⟨_, rfl⟩
        have h := h v3 ev3
        refine gv_iinc (lv' := [(4, .int (iI v3)), (0, .ref (ad 0)), (2, .int (iI y2)), (3, .int (iI y3)), (5, .int (iI y5))]) F dX4_newDoor_155 hl (k := 3) rfl ev3 (by decide) rfl (fun ls hl => ?_)
        refine lv_goto (tgt := 33) F.1 F.2.1 dX4_newDoor_158 (by decide) ?_
        exact hK33 y2 y3 v3 mm fa H locs ls h hP hD hS (lv_sub hl [1, 2, 3, 0] rfl)
      · have h := h.2 c2
        refine lv_aload_n F.1 F.2.1 dX4_newDoor_53 rfl (lv_at hl 0 rfl) ?_
        refine gv_get F hin4 hK hP 0 rfl rfl 0 (by decide) k756 rfl dX4_newDoor_54 ?_
        refine gv_iconst F dX4_newDoor_57 ?_
        refine lv_iload F.1 F.2.1 dX4_newDoor_58 (lv_at hl 3 rfl) ?_
        refine gv_iadd F dX4_newDoor_60 ?_
        obtain ⟨g4, h⟩ := h
        refine gv_iald (n := 147) (g := ss) F hK hP 1 rfl rfl (by decide) g4 dX4_newDoor_61 ?_
        refine lv_iload F.1 F.2.1 dX4_newDoor_62 (lv_at hl 4 rfl) ?_
        obtain ⟨g5, h⟩ := h
        obtain ⟨g6, h⟩ := h
        refine gv_ishr F g5 g6 dX4_newDoor_64 ?_
        refine gv_iconst F dX4_newDoor_65 ?_
        refine gv_iand F 1 (by decide) (by decide) dX4_newDoor_66 ?_
        refine gv_iconst F dX4_newDoor_67 ?_
        obtain ⟨g7, h⟩ := h
        refine gv_icmp_ne (tgt := 74) F g7 ⟨by decide, by decide⟩ dX4_newDoor_68 (by decide) (fun c8 => ?_) (fun c8 => ?_)
        · have h := h.1 c8
          refine lv_aload_n F.1 F.2.1 dX4_newDoor_74 rfl (lv_at hl 0 rfl) ?_
          refine gv_get F hin4 hK hP 0 rfl rfl 0 (by decide) k756 rfl dX4_newDoor_75 ?_
          refine lv_aload_n F.1 F.2.1 dX4_newDoor_78 rfl (lv_at hl 0 rfl) ?_
          refine gv_get F hin4 hK hP 0 rfl rfl 1 (by decide) k757 rfl dX4_newDoor_79 ?_
          refine gc_SV (As := [.ref (ad 1), .ref (ad 2)]) (wn := fun u : AR => wMd cy ad o ss u im wa le ro re fa nu) F hK hA hP hD hS (cp_md_s_m hP) (cd_md_s_m hD) (fun u H1 hk h1 _ => cj_md_s_m hP hD u H1 hk h1) (c_X4_lays l D cy (ad 1) (ad 2) ss mm _ h) (cwS 2 F.2.2.2.2 (gG_S k842 k843 k67 k844) rfl rfl rfl hd_X4_lays ⟨Nat.le_of_ble_eq_true rfl, Nat.le_of_ble_eq_true rfl⟩) dX4_newDoor_82 rfl rfl hl.1 (Nat.le_of_ble_eq_true rfl) ⟨Nat.le_of_ble_eq_true rfl, Nat.le_of_ble_eq_true rfl⟩ (fun z9 H locs h hP hD hS => ?_)
          try dsimp only at h hP hD
          refine lv_aload_n F.1 F.2.1 dX4_newDoor_85 rfl (lv_at hl 0 rfl) ?_
          refine gv_get F hin4 hK hP 0 rfl rfl 1 (by decide) k757 rfl dX4_newDoor_86 ?_
          refine gv_iconst F dX4_newDoor_89 ?_
          refine lv_iload F.1 F.2.1 dX4_newDoor_90 (lv_at hl 3 rfl) ?_
          refine gv_iadd F dX4_newDoor_92 ?_
          refine lv_dup2_11 F.1 F.2.1 dX4_newDoor_93 rfl rfl ?_
          obtain ⟨g10, h⟩ := h
          refine gv_iald (n := 147) (g := z9) F hK hP 2 rfl rfl (by decide) g10 dX4_newDoor_94 ?_
          refine gv_iconst F dX4_newDoor_95 ?_
          refine lv_iload F.1 F.2.1 dX4_newDoor_96 (lv_at hl 4 rfl) ?_
          obtain ⟨g11, h⟩ := h
          refine gv_ishl F g11 dX4_newDoor_98 ?_
          obtain ⟨g12, h⟩ := h
          refine gv_ior F g12 dX4_newDoor_99 ?_
          obtain ⟨g13, h⟩ := h
          obtain ⟨z14, ez14⟩ : ∃ z : AR, z = su z9 (3 + y4) (gor (z9 (3 + y4)) ((1 : Int) * 2 ^ (y5 : Int).toNat)) := ⟨_, rfl⟩
          have h := h z14 ez14
          refine gv_iast (n := 147) (g := z9) (ws' := wMd cy ad o ss z14 im wa le ro re fa nu) F hK hP hD hS 2 rfl rfl (by decide) g13 (by subst ez14; exact rfl) dX4_newDoor_100 (fun H locs hP hD hS => ?_)
          refine lv_aload_n F.1 F.2.1 dX4_newDoor_101 rfl (lv_at hl 0 rfl) ?_
          refine gv_get F hin4 hK hP 0 rfl rfl 1 (by decide) k757 rfl dX4_newDoor_102 ?_
          refine gv_iconst F dX4_newDoor_105 ?_
          refine lv_iload F.1 F.2.1 dX4_newDoor_106 (lv_at hl 4 rfl) ?_
          refine gv_iadd F dX4_newDoor_108 ?_
          refine lv_dup2_11 F.1 F.2.1 dX4_newDoor_109 rfl rfl ?_
          obtain ⟨g15, h⟩ := h
          refine gv_iald (n := 147) (g := z14) F hK hP 2 rfl rfl (by decide) g15 dX4_newDoor_110 ?_
          refine gv_iconst F dX4_newDoor_111 ?_
          refine lv_iload F.1 F.2.1 dX4_newDoor_112 (lv_at hl 3 rfl) ?_
          obtain ⟨g16, h⟩ := h
          refine gv_ishl F g16 dX4_newDoor_114 ?_
          obtain ⟨g17, h⟩ := h
          refine gv_ior F g17 dX4_newDoor_115 ?_
          obtain ⟨g18, h⟩ := h
          obtain ⟨z19, ez19⟩ : ∃ z : AR, z = su z14 (3 + y5) (gor (z14 (3 + y5)) ((1 : Int) * 2 ^ (y4 : Int).toNat)) := ⟨_, rfl⟩
          have h := h z19 ez19
          refine gv_iast (n := 147) (g := z14) (ws' := wMd cy ad o ss z19 im wa le ro re fa nu) F hK hP hD hS 2 rfl rfl (by decide) g18 (by subst ez19; exact rfl) dX4_newDoor_116 (fun H locs hP hD hS => ?_)
          refine lv_aload_n F.1 F.2.1 dX4_newDoor_117 rfl (lv_at hl 0 rfl) ?_
          refine gc_VI (As := []) (wn := fun u : AR × AR => wMd cy ad o ss u.1 im wa le ro re u.2 nu) F hK hA hP hD hS hP hD (fun u H1 _ h1 h2 => ⟨h1, h2⟩) (c_X4_allDoneIn l D cy ad o ss z19 im wa le ro re fa nu _ h) (cwV 0 F.2.2.2.2 (gG_V k991 k993 k52 k67 k994) rfl rfl rfl hd_X4_allDoneIn ⟨Nat.le_of_ble_eq_true rfl, Nat.le_of_ble_eq_true rfl⟩) rfl rfl dX4_newDoor_118 rfl rfl hl.1 (Nat.le_of_ble_eq_true rfl) ⟨Nat.le_of_ble_eq_true rfl, Nat.le_of_ble_eq_true rfl⟩ (fun u22 u H locs h hP hD hS => ?_)
          obtain ⟨z20, z21⟩ := u
          try dsimp only at h hP hD
          refine lv_istore (lv' := [(6, .int (iI u22)), (0, .ref (ad 0)), (2, .int (iI y2)), (3, .int (iI y3)), (4, .int (iI y4)), (5, .int (iI y5))]) F.1 F.2.1 dX4_newDoor_121 hl (by decide) rfl (fun ls hl => ?_)
          refine lv_iload F.1 F.2.1 dX4_newDoor_123 (lv_at hl 0 rfl) ?_
          obtain ⟨g23, h⟩ := h
          refine gv_if_lt (tgt := 149) F g23 dX4_newDoor_125 (by decide) (fun c24 => ?_) (fun c24 => ?_)
          · have h := h.1 c24
            obtain ⟨v25, ev25⟩ : ∃ z : Int, z = y5 + 1 := ⟨_, rfl⟩
            have h := h v25 ev25
            refine gv_iinc (lv' := [(5, .int (iI v25)), (6, .int (iI u22)), (0, .ref (ad 0)), (2, .int (iI y2)), (3, .int (iI y3)), (4, .int (iI y4))]) F dX4_newDoor_149 hl (k := 5) rfl ev25 (by decide) rfl (fun ls hl => ?_)
            refine lv_goto (tgt := 46) F.1 F.2.1 dX4_newDoor_152 (by decide) ?_
            exact ih y2 y3 y4 v25 z20 z21 H locs ls h hP hD hS (lv_sub hl [2, 3, 4, 5, 0] rfl)
          · have h := h.2 c24
            refine lv_iload F.1 F.2.1 dX4_newDoor_128 (lv_at hl 0 rfl) ?_
            refine lv_iload_n F.1 F.2.1 dX4_newDoor_130 rfl (lv_at hl 2 rfl) ?_
            obtain ⟨g26, h⟩ := h
            refine gv_icmp_lt (tgt := 137) F g23 g26 dX4_newDoor_131 (by decide) (fun c27 => ?_) (fun c27 => ?_)
            · have h := h.1 c27
              refine gv_bipush F ⟨by decide, by decide⟩ dX4_newDoor_137 ?_
              refine lv_iload F.1 F.2.1 dX4_newDoor_139 (lv_at hl 4 rfl) ?_
              refine gv_imul F dX4_newDoor_141 ?_
              refine lv_iload F.1 F.2.1 dX4_newDoor_142 (lv_at hl 5 rfl) ?_
              refine gv_iadd F dX4_newDoor_144 ?_
              refine gv_name (fun v28 ev28 => ?_)
              have h := h v28 ev28
              refine lv_istore_n (lv' := [(3, .int (iI v28)), (6, .int (iI u22)), (0, .ref (ad 0)), (2, .int (iI y2)), (4, .int (iI y4)), (5, .int (iI y5))]) F.1 F.2.1 dX4_newDoor_145 rfl hl (by decide) rfl (fun ls hl => ?_)
              refine lv_iload F.1 F.2.1 dX4_newDoor_146 (lv_at hl 1 rfl) ?_
              refine lv_istore_n (lv' := [(2, .int (iI u22)), (3, .int (iI v28)), (6, .int (iI u22)), (0, .ref (ad 0)), (4, .int (iI y4)), (5, .int (iI y5))]) F.1 F.2.1 dX4_newDoor_148 rfl hl (by decide) rfl (fun ls hl => ?_)
              obtain ⟨v29, ev29⟩ : ∃ z : Int, z = y5 + 1 := ⟨_, rfl⟩
              have h := h v29 ev29
              refine gv_iinc (lv' := [(5, .int (iI v29)), (2, .int (iI u22)), (3, .int (iI v28)), (6, .int (iI u22)), (0, .ref (ad 0)), (4, .int (iI y4))]) F dX4_newDoor_149 hl (k := 5) rfl ev29 (by decide) rfl (fun ls hl => ?_)
              refine lv_goto (tgt := 46) F.1 F.2.1 dX4_newDoor_152 (by decide) ?_
              exact ih u22 v28 y4 v29 z20 z21 H locs ls h hP hD hS (lv_sub hl [4, 1, 2, 5, 0] rfl)
            · have h := h.2 c27
              refine lv_goto (tgt := 149) F.1 F.2.1 dX4_newDoor_134 (by decide) ?_
              obtain ⟨v30, ev30⟩ : ∃ z : Int, z = y5 + 1 := ⟨_, rfl⟩
              have h := h v30 ev30
              refine gv_iinc (lv' := [(5, .int (iI v30)), (6, .int (iI u22)), (0, .ref (ad 0)), (2, .int (iI y2)), (3, .int (iI y3)), (4, .int (iI y4))]) F dX4_newDoor_149 hl (k := 5) rfl ev30 (by decide) rfl (fun ls hl => ?_)
              refine lv_goto (tgt := 46) F.1 F.2.1 dX4_newDoor_152 (by decide) ?_
              exact ih y2 y3 y4 v30 z20 z21 H locs ls h hP hD hS (lv_sub hl [2, 3, 4, 5, 0] rfl)
        · have h := h.2 c8
          refine lv_goto (tgt := 149) F.1 F.2.1 dX4_newDoor_71 (by decide) ?_
          obtain ⟨v31, ev31⟩ : ∃ z : Int, z = y5 + 1 := ⟨_, rfl⟩
          have h := h v31 ev31
          refine gv_iinc (lv' := [(5, .int (iI v31)), (0, .ref (ad 0)), (2, .int (iI y2)), (3, .int (iI y3)), (4, .int (iI y4))]) F dX4_newDoor_149 hl (k := 4) rfl ev31 (by decide) rfl (fun ls hl => ?_)
          refine lv_goto (tgt := 46) F.1 F.2.1 dX4_newDoor_152 (by decide) ?_
          exact ih y2 y3 y4 v31 mm fa H locs ls h hP hD hS (lv_sub hl [1, 2, 3, 4, 0] rfl)
  have L33 : ∀ (n : Nat) (y2 : Int) (y3 : Int) (y4 : Int) (mm : AR) (fa : AR) (H : Heap) (locs : List Loc) (ls : Array Slot), wX4_newDoor_33 ss Q n y2 y3 y4 mm fa → va_P D vwCl (wMd cy ad o ss mm im wa le ro re fa nu) H → va_D A (wMd cy ad o ss mm im wa le ro re fa nu) → va_S A s.heap H locs → lv_has ls 7 [(0, .ref (ad 0)), (2, .int (iI y2)), (3, .int (iI y3)), (4, .int (iI y4))] → W p l e rX4_newDoor s m args below meth c H locs 0 0 Qg (F0 m 33 ls []) := by
    intro  n
    induction n with
    | zero => intro _ _ _ _ _ _ _ _ h; exact h.elim
    | succ n ih =>
      intro y2 y3 y4 mm fa H locs ls h hP hD hS hl
      rw [wX4_newDoor_33_s] at h
      refine lv_iload F.1 F.2.1 dX4_newDoor_33 (lv_at hl 3 rfl) ?_
      refine gv_bipush F ⟨by decide, by decide⟩ dX4_newDoor_35 ?_
      obtain ⟨g32, h⟩ := h
      refine gv_icmp_ge (tgt := 161) F g32 ⟨by decide, by decide⟩ dX4_newDoor_37 (by decide) (fun c33 => ?_) (fun c33 => ?_)
      · have h := h.1 c33
        refine lv_iload_n F.1 F.2.1 dX4_newDoor_161 rfl (lv_at hl 2 rfl) ?_
        exact ret y3 (mm, fa) H locs 162 ls h rfl hP hD hS dX4_newDoor_162
      · have h := h.2 c33
        refine lv_iload F.1 F.2.1 dX4_newDoor_40 (lv_at hl 3 rfl) ?_
        refine gv_iconst F dX4_newDoor_42 ?_
        refine gv_iadd F dX4_newDoor_43 ?_
        refine gv_name (fun v34 ev34 => ?_)
        have h := h v34 ev34
        refine lv_istore (lv' := [(5, .int (iI v34)), (0, .ref (ad 0)), (2, .int (iI y2)), (3, .int (iI y3)), (4, .int (iI y4))]) F.1 F.2.1 dX4_newDoor_44 hl (by decide) rfl (fun ls hl => ?_)
        obtain ⟨n35, h⟩ := h
        exact L46 _ ih n35 y2 y3 y4 v34 mm fa H locs ls h hP hD hS (lv_sub hl [1, 2, 3, 4, 0] rfl)
  refine lv_aload_n F.1 F.2.1 dX4_newDoor_0 rfl (lv_at hl 0 rfl) ?_
  refine gv_get F hin4 hK hP 0 rfl rfl 0 (by decide) k756 rfl dX4_newDoor_1 ?_
  refine lv_aload_n F.1 F.2.1 dX4_newDoor_4 rfl (lv_at hl 0 rfl) ?_
  refine gv_get F hin4 hK hP 0 rfl rfl 1 (by decide) k757 rfl dX4_newDoor_5 ?_
  refine gc_SV (As := [.ref (ad 1), .ref (ad 2)]) (wn := fun u : AR => wMd cy ad o ss u im wa le ro re fa nu) F hK hA hP hD hS (cp_md_s_m hP) (cd_md_s_m hD) (fun u H1 hk h1 _ => cj_md_s_m hP hD u H1 hk h1) (c_X4_lays l D cy (ad 1) (ad 2) ss mm _ h) (cwS 2 F.2.2.2.2 (gG_S k842 k843 k67 k844) rfl rfl rfl hd_X4_lays ⟨Nat.le_of_ble_eq_true rfl, Nat.le_of_ble_eq_true rfl⟩) dX4_newDoor_8 rfl rfl hl.1 (Nat.le_of_ble_eq_true rfl) ⟨Nat.le_of_ble_eq_true rfl, Nat.le_of_ble_eq_true rfl⟩ (fun z36 H locs h hP hD hS => ?_)
  try dsimp only at h hP hD
  refine lv_aload_n F.1 F.2.1 dX4_newDoor_11 rfl (lv_at hl 0 rfl) ?_
  refine gc_VI (As := []) (wn := fun u : AR × AR => wMd cy ad o ss u.1 im wa le ro re u.2 nu) F hK hA hP hD hS hP hD (fun u H1 _ h1 h2 => ⟨h1, h2⟩) (c_X4_allDoneIn l D cy ad o ss z36 im wa le ro re fa nu _ h) (cwV 0 F.2.2.2.2 (gG_V k991 k993 k52 k67 k994) rfl rfl rfl hd_X4_allDoneIn ⟨Nat.le_of_ble_eq_true rfl, Nat.le_of_ble_eq_true rfl⟩) rfl rfl dX4_newDoor_12 rfl rfl hl.1 (Nat.le_of_ble_eq_true rfl) ⟨Nat.le_of_ble_eq_true rfl, Nat.le_of_ble_eq_true rfl⟩ (fun u39 u H locs h hP hD hS => ?_)
  obtain ⟨z37, z38⟩ := u
  try dsimp only at h hP hD
  refine lv_istore_n (lv' := [(1, .int (iI u39)), (0, .ref (ad 0))]) F.1 F.2.1 dX4_newDoor_15 rfl hl (by decide) rfl (fun ls hl => ?_)
  refine lv_iload_n F.1 F.2.1 dX4_newDoor_16 rfl (lv_at hl 0 rfl) ?_
  obtain ⟨g40, h⟩ := h
  refine gv_if_ge (tgt := 25) F g40 dX4_newDoor_17 (by decide) (fun c41 => ?_) (fun c41 => ?_)
  · have h := h.1 c41
    refine lv_iload_n F.1 F.2.1 dX4_newDoor_25 rfl (lv_at hl 0 rfl) ?_
    refine lv_istore_n (lv' := [(2, .int (iI u39)), (1, .int (iI u39)), (0, .ref (ad 0))]) F.1 F.2.1 dX4_newDoor_26 rfl hl (by decide) rfl (fun ls hl => ?_)
    refine gv_bipush F ⟨by decide, by decide⟩ dX4_newDoor_27 ?_
    refine lv_istore_n (lv' := [(3, .int (iI (-9))), (2, .int (iI u39)), (1, .int (iI u39)), (0, .ref (ad 0))]) F.1 F.2.1 dX4_newDoor_29 rfl hl (by decide) rfl (fun ls hl => ?_)
    refine gv_iconst F dX4_newDoor_30 ?_
    refine lv_istore (lv' := [(4, .int (iI 0)), (3, .int (iI (-9))), (2, .int (iI u39)), (1, .int (iI u39)), (0, .ref (ad 0))]) F.1 F.2.1 dX4_newDoor_31 hl (by decide) rfl (fun ls hl => ?_)
    obtain ⟨n42, h⟩ := h
    exact L33 n42 u39 (-9) 0 z37 z38 H locs ls h hP hD hS (lv_sub hl [4, 2, 1, 0] rfl)
  · have h := h.2 c41
    refine gv_ldc (n := 1000000000) F k896 rfl dX4_newDoor_20 ?_
    refine lv_goto (tgt := 26) F.1 F.2.1 dX4_newDoor_22 (by decide) ?_
    refine lv_istore_n (lv' := [(2, .int (iI 1000000000)), (1, .int (iI u39)), (0, .ref (ad 0))]) F.1 F.2.1 dX4_newDoor_26 rfl hl (by decide) rfl (fun ls hl => ?_)
    refine gv_bipush F ⟨by decide, by decide⟩ dX4_newDoor_27 ?_
    refine lv_istore_n (lv' := [(3, .int (iI (-9))), (2, .int (iI 1000000000)), (1, .int (iI u39)), (0, .ref (ad 0))]) F.1 F.2.1 dX4_newDoor_29 rfl hl (by decide) rfl (fun ls hl => ?_)
    refine gv_iconst F dX4_newDoor_30 ?_
    refine lv_istore (lv' := [(4, .int (iI 0)), (3, .int (iI (-9))), (2, .int (iI 1000000000)), (1, .int (iI u39)), (0, .ref (ad 0))]) F.1 F.2.1 dX4_newDoor_31 hl (by decide) rfl (fun ls hl => ?_)
    obtain ⟨n43, h⟩ := h
    exact L33 n43 1000000000 (-9) 0 z37 z38 H locs ls h hP hD hS (lv_sub hl [4, 2, 1, 0] rfl)
abbrev rX4_row : Room := { frames := 1, cells := 0, slots := 0, locals := 21 }
set_option maxHeartbeats 4000000 in
set_option maxRecDepth 20000 in
theorem c_X4_row (l : Launch) (D : va_G) (cy : ClassId) (ad : Nat → Nat) (o : AR) (ss : AR) (mm : AR) (im : AR) (wa : AR) (le : AR) (ro : AR) (re : AR) (fa : AR) (nu : AR) (x1 : Int) (Q : Int → AR → AR → AR → Prop) (h : wX4_row o ro re x1 Q) : MetI l yX4_row (wT yX4_row cX4_row 2 (some .int)) rX4_row D cy [.ref (ad 0), .int (iI x1)] (wMd cy ad o ss mm im wa le ro re fa nu) (fun u : AR × AR × AR => wMd cy ad u.1 ss mm im wa le u.2.1 u.2.2 fa nu) (fun r u => Q r u.1 u.2.1 u.2.2) := by
  refine gI_I (by decide) (Nat.le_of_ble_eq_true rfl) ?_
  intro p e s m args below meth c A Qg F hK hA ret H locs ls hl hP hD hS
  have F : CallFix p m c cX4_row 2 s args gT RX4 := F
  have hl : lv_has ls 2 [(0, .ref (ad 0)), (1, .int (iI x1))] := hl
  refine lv_iload_n F.1 F.2.1 dX4_row_0 rfl (lv_at hl 1 rfl) ?_
  obtain ⟨g1, h⟩ := h
  refine gv_if_ge (tgt := 11) F g1 dX4_row_1 (by decide) (fun c2 => ?_) (fun c2 => ?_)
  · have h := h.1 c2
    refine lv_iload_n F.1 F.2.1 dX4_row_11 rfl (lv_at hl 1 rfl) ?_
    refine gv_bipush F ⟨by decide, by decide⟩ dX4_row_12 ?_
    refine gv_icmp_gt (tgt := 26) F g1 ⟨by decide, by decide⟩ dX4_row_14 (by decide) (fun c3 => ?_) (fun c3 => ?_)
    · have h := h.1 c3
      refine lv_aload_n F.1 F.2.1 dX4_row_26 rfl (lv_at hl 0 rfl) ?_
      refine gv_bipush F ⟨by decide, by decide⟩ dX4_row_27 ?_
      refine gc_VI (As := [.int (iI (-6))]) (wn := fun u : AR => wMd cy ad o ss mm im wa le ro u fa nu) F hK hA hP hD hS hP hD (fun u H1 _ h1 h2 => ⟨h1, h2⟩) (c_X4_no l D cy ad o ss mm im wa le ro re fa nu (-6) _ h) (cwV 1 F.2.2.2.2 (gG_V k812 k814 k34 k67 k815) rfl rfl rfl hd_X4_no ⟨Nat.le_of_ble_eq_true rfl, Nat.le_of_ble_eq_true rfl⟩) rfl rfl dX4_row_29 rfl rfl hl.1 (Nat.le_of_ble_eq_true rfl) ⟨Nat.le_of_ble_eq_true rfl, Nat.le_of_ble_eq_true rfl⟩ (fun u5 z4 H locs h hP hD hS => ?_)
      try dsimp only at h hP hD
      exact ret u5 (o, ro, z4) H locs 32 ls h rfl hP hD hS dX4_row_32
    · have h := h.2 c3
      refine lv_aload_n F.1 F.2.1 dX4_row_17 rfl (lv_at hl 0 rfl) ?_
      refine gv_get F hin4 hK hP 0 rfl rfl 9 (by decide) k765 rfl dX4_row_18 ?_
      refine gv_bipush F ⟨by decide, by decide⟩ dX4_row_21 ?_
      obtain ⟨g6, h⟩ := h
      refine gv_icmp_ne (tgt := 33) F g6 ⟨by decide, by decide⟩ dX4_row_23 (by decide) (fun c7 => ?_) (fun c7 => ?_)
      · have h := h.1 c7
        refine lv_aload_n F.1 F.2.1 dX4_row_33 rfl (lv_at hl 0 rfl) ?_
        refine gv_get F hin4 hK hP 0 rfl rfl 6 (by decide) k762 rfl dX4_row_34 ?_
        refine lv_aload_n F.1 F.2.1 dX4_row_37 rfl (lv_at hl 0 rfl) ?_
        refine gv_get F hin4 hK hP 0 rfl rfl 9 (by decide) k765 rfl dX4_row_38 ?_
        refine lv_iload_n F.1 F.2.1 dX4_row_41 rfl (lv_at hl 1 rfl) ?_
        obtain ⟨g8, h⟩ := h
        obtain ⟨z9, ez9⟩ : ∃ z : AR, z = su ro (o 9) x1 := ⟨_, rfl⟩
        have h := h z9 ez9
        refine gv_iast (n := 12) (g := ro) (ws' := wMd cy ad o ss mm im wa le z9 re fa nu) F hK hP hD hS 6 rfl rfl (by decide) g8 (by subst ez9; exact rfl) dX4_row_42 (fun H locs hP hD hS => ?_)
        refine lv_aload_n F.1 F.2.1 dX4_row_43 rfl (lv_at hl 0 rfl) ?_
        refine lv_dup F.1 F.2.1 dX4_row_44 rfl ?_
        refine gv_get F hin4 hK hP 0 rfl rfl 9 (by decide) k765 rfl dX4_row_45 ?_
        refine gv_iconst F dX4_row_48 ?_
        refine gv_iadd F dX4_row_49 ?_
        obtain ⟨z10, ez10⟩ : ∃ z : AR, z = su o 9 ((o 9) + 1) := ⟨_, rfl⟩
        have h := h z10 ez10
        refine gv_put (ws' := wMd cy ad z10 ss mm im wa le z9 re fa nu) F hin4 tyX4 tyX4_ok nmX4 hK hP hD hS 0 rfl rfl 9 (by decide) k765 rfl (ty := .int) (by decide +kernel) rfl rfl (Nat.le_of_ble_eq_true rfl) (by subst ez10; exact wMd_o9 rfl) dX4_row_50 (fun H locs hP hD hS => ?_)
        refine lv_aload_n F.1 F.2.1 dX4_row_53 rfl (lv_at hl 0 rfl) ?_
        refine gv_get F hin4 hK hP 0 rfl rfl 9 (by decide) k765 rfl dX4_row_54 ?_
        exact ret (z10 9) (z10, z9, re) H locs 57 ls h rfl hP hD hS dX4_row_57
      · have h := h.2 c7
        refine lv_aload_n F.1 F.2.1 dX4_row_26 rfl (lv_at hl 0 rfl) ?_
        refine gv_bipush F ⟨by decide, by decide⟩ dX4_row_27 ?_
        refine gc_VI (As := [.int (iI (-6))]) (wn := fun u : AR => wMd cy ad o ss mm im wa le ro u fa nu) F hK hA hP hD hS hP hD (fun u H1 _ h1 h2 => ⟨h1, h2⟩) (c_X4_no l D cy ad o ss mm im wa le ro re fa nu (-6) _ h) (cwV 1 F.2.2.2.2 (gG_V k812 k814 k34 k67 k815) rfl rfl rfl hd_X4_no ⟨Nat.le_of_ble_eq_true rfl, Nat.le_of_ble_eq_true rfl⟩) rfl rfl dX4_row_29 rfl rfl hl.1 (Nat.le_of_ble_eq_true rfl) ⟨Nat.le_of_ble_eq_true rfl, Nat.le_of_ble_eq_true rfl⟩ (fun u12 z11 H locs h hP hD hS => ?_)
        try dsimp only at h hP hD
        exact ret u12 (o, ro, z11) H locs 32 ls h rfl hP hD hS dX4_row_32
  · have h := h.2 c2
    refine lv_aload_n F.1 F.2.1 dX4_row_4 rfl (lv_at hl 0 rfl) ?_
    refine gv_bipush F ⟨by decide, by decide⟩ dX4_row_5 ?_
    refine gc_VI (As := [.int (iI (-4))]) (wn := fun u : AR => wMd cy ad o ss mm im wa le ro u fa nu) F hK hA hP hD hS hP hD (fun u H1 _ h1 h2 => ⟨h1, h2⟩) (c_X4_no l D cy ad o ss mm im wa le ro re fa nu (-4) _ h) (cwV 1 F.2.2.2.2 (gG_V k812 k814 k34 k67 k815) rfl rfl rfl hd_X4_no ⟨Nat.le_of_ble_eq_true rfl, Nat.le_of_ble_eq_true rfl⟩) rfl rfl dX4_row_7 rfl rfl hl.1 (Nat.le_of_ble_eq_true rfl) ⟨Nat.le_of_ble_eq_true rfl, Nat.le_of_ble_eq_true rfl⟩ (fun u14 z13 H locs h hP hD hS => ?_)
    try dsimp only at h hP hD
    exact ret u14 (o, ro, z13) H locs 10 ls h rfl hP hD hS dX4_row_10
abbrev rX4_isTold : Room := { frames := 6, cells := 0, slots := 0, locals := 141 }
set_option maxHeartbeats 4000000 in
set_option maxRecDepth 20000 in
theorem c_X4_isTold (l : Launch) (D : va_G) (cy : ClassId) (ad : Nat → Nat) (o : AR) (ss : AR) (mm : AR) (im : AR) (wa : AR) (le : AR) (ro : AR) (re : AR) (fa : AR) (nu : AR) (x1 : Int) (Q : Int → AR → AR → Prop) (h : wX4_isTold ss mm ro fa x1 Q) : MetI l yX4_isTold (wT yX4_isTold cX4_isTold 4 (some .boolean)) rX4_isTold D cy [.ref (ad 0), .int (iI x1)] (wMd cy ad o ss mm im wa le ro re fa nu) (fun u : AR × AR => wMd cy ad o ss u.1 im wa le ro re u.2 nu) (fun r u => (r = 0 ∨ r = 1) ∧ Q r u.1 u.2) := by
  refine gI_I (by decide) (Nat.le_of_ble_eq_true rfl) ?_
  intro p e s m args below meth c A Qg F hK hA ret H locs ls hl hP hD hS
  have F : CallFix p m c cX4_isTold 4 s args gT RX4 := F
  have hl : lv_has ls 4 [(0, .ref (ad 0)), (1, .int (iI x1))] := hl
  have L12 : ∀ (n : Nat) (y1 : Int) (y2 : Int) (mm : AR) (fa : AR) (H : Heap) (locs : List Loc) (ls : Array Slot), wX4_isTold_12 ss ro Q n y1 y2 mm fa → va_P D vwCl (wMd cy ad o ss mm im wa le ro re fa nu) H → va_D A (wMd cy ad o ss mm im wa le ro re fa nu) → va_S A s.heap H locs → lv_has ls 4 [(0, .ref (ad 0)), (1, .int (iI y1)), (2, .int (iI y2))] → W p l e rX4_isTold s m args below meth c H locs 0 0 Qg (F0 m 12 ls []) := by
    intro  n
    induction n with
    | zero => intro _ _ _ _ _ _ _ h; exact h.elim
    | succ n ih =>
      intro y1 y2 mm fa H locs ls h hP hD hS hl
      rw [wX4_isTold_12_s] at h
      refine lv_iload_n F.1 F.2.1 dX4_isTold_12 rfl (lv_at hl 2 rfl) ?_
      refine lv_aload_n F.1 F.2.1 dX4_isTold_13 rfl (lv_at hl 0 rfl) ?_
      refine gv_get F hin4 hK hP 0 rfl rfl 0 (by decide) k756 rfl dX4_isTold_14 ?_
      refine gv_iconst F dX4_isTold_17 ?_
      refine gv_iald (n := 147) (g := ss) F hK hP 1 rfl rfl (by decide) ⟨by decide, by decide⟩ dX4_isTold_18 ?_
      obtain ⟨g1, h⟩ := h
      obtain ⟨g2, h⟩ := h
      refine gv_icmp_ge (tgt := 60) F g1 g2 dX4_isTold_19 (by decide) (fun c3 => ?_) (fun c3 => ?_)
      · have h := h.1 c3
        refine gv_iconst F dX4_isTold_60 ?_
        exact ret 1 (mm, fa) H locs 61 ls ⟨Or.inr rfl, h⟩ rfl hP hD hS dX4_isTold_61
      · have h := h.2 c3
        refine lv_aload_n F.1 F.2.1 dX4_isTold_22 rfl (lv_at hl 0 rfl) ?_
        refine gv_get F hin4 hK hP 0 rfl rfl 1 (by decide) k757 rfl dX4_isTold_23 ?_
        refine lv_iload_n F.1 F.2.1 dX4_isTold_26 rfl (lv_at hl 1 rfl) ?_
        refine lv_iload_n F.1 F.2.1 dX4_isTold_27 rfl (lv_at hl 2 rfl) ?_
        refine gc_SR (As := [.int (iI y1), .int (iI y2)]) F hK hA hP hS gPnil (c_X4_sheetOf l D cy y1 y2 _ h) (cwS 2 F.2.2.2.2 (gG_S k859 k860 k67 k861) rfl rfl rfl hd_X4_sheetOf ⟨Nat.le_of_ble_eq_true rfl, Nat.le_of_ble_eq_true rfl⟩) dX4_isTold_28 rfl rfl hl.1 (Nat.le_of_ble_eq_true rfl) ⟨Nat.le_of_ble_eq_true rfl, Nat.le_of_ble_eq_true rfl⟩ (fun u4 H locs h hP hS => ?_)
        obtain ⟨g5, h⟩ := h
        refine gv_iald (n := 147) (g := mm) F hK hP 2 rfl rfl (by decide) g5 dX4_isTold_31 ?_
        refine gv_name (fun v6 ev6 => ?_)
        have h := h v6 ev6
        refine lv_istore_n (lv' := [(3, .int (iI v6)), (0, .ref (ad 0)), (1, .int (iI y1)), (2, .int (iI y2))]) F.1 F.2.1 dX4_isTold_32 rfl hl (by decide) rfl (fun ls hl => ?_)
        refine lv_iload_n F.1 F.2.1 dX4_isTold_33 rfl (lv_at hl 0 rfl) ?_
        obtain ⟨g7, h⟩ := h
        refine gv_if_ge (tgt := 42) F g7 dX4_isTold_34 (by decide) (fun c8 => ?_) (fun c8 => ?_)
        · have h := h.1 c8
          refine lv_iload_n F.1 F.2.1 dX4_isTold_42 rfl (lv_at hl 0 rfl) ?_
          refine lv_aload_n F.1 F.2.1 dX4_isTold_43 rfl (lv_at hl 1 rfl) ?_
          refine gv_get F hin4 hK hP 0 rfl rfl 6 (by decide) k762 rfl dX4_isTold_44 ?_
          refine lv_iload_n F.1 F.2.1 dX4_isTold_47 rfl (lv_at hl 3 rfl) ?_
          obtain ⟨g9, h⟩ := h
          refine gv_iald (n := 12) (g := ro) F hK hP 6 rfl rfl (by decide) g9 dX4_isTold_48 ?_
          obtain ⟨g10, h⟩ := h
          refine gv_icmp_eq (tgt := 54) F g7 g10 dX4_isTold_49 (by decide) (fun c11 => ?_) (fun c11 => ?_)
          · have h := h.1 c11
            obtain ⟨v12, ev12⟩ : ∃ z : Int, z = y2 + 1 := ⟨_, rfl⟩
            have h := h v12 ev12
            refine gv_iinc (lv' := [(2, .int (iI v12)), (3, .int (iI v6)), (0, .ref (ad 0)), (1, .int (iI y1))]) F dX4_isTold_54 hl (k := 3) rfl ev12 (by decide) rfl (fun ls hl => ?_)
            refine lv_goto (tgt := 12) F.1 F.2.1 dX4_isTold_57 (by decide) ?_
            exact ih y1 v12 mm fa H locs ls h hP hD hS (lv_sub hl [2, 3, 0] rfl)
          · have h := h.2 c11
            refine gv_iconst F dX4_isTold_52 ?_
            exact ret 0 (mm, fa) H locs 53 ls ⟨Or.inl rfl, h⟩ rfl hP hD hS dX4_isTold_53
        · have h := h.2 c8
          refine gv_bipush F ⟨by decide, by decide⟩ dX4_isTold_37 ?_
          refine lv_goto (tgt := 43) F.1 F.2.1 dX4_isTold_39 (by decide) ?_
          refine lv_aload_n F.1 F.2.1 dX4_isTold_43 rfl (lv_at hl 1 rfl) ?_
          refine gv_get F hin4 hK hP 0 rfl rfl 6 (by decide) k762 rfl dX4_isTold_44 ?_
          refine lv_iload_n F.1 F.2.1 dX4_isTold_47 rfl (lv_at hl 3 rfl) ?_
          obtain ⟨g13, h⟩ := h
          refine gv_iald (n := 12) (g := ro) F hK hP 6 rfl rfl (by decide) g13 dX4_isTold_48 ?_
          obtain ⟨g14, h⟩ := h
          refine gv_icmp_eq (tgt := 54) F ⟨by decide, by decide⟩ g14 dX4_isTold_49 (by decide) (fun c15 => ?_) (fun c15 => ?_)
          · have h := h.1 c15
            obtain ⟨v16, ev16⟩ : ∃ z : Int, z = y2 + 1 := ⟨_, rfl⟩
            have h := h v16 ev16
            refine gv_iinc (lv' := [(2, .int (iI v16)), (3, .int (iI v6)), (0, .ref (ad 0)), (1, .int (iI y1))]) F dX4_isTold_54 hl (k := 3) rfl ev16 (by decide) rfl (fun ls hl => ?_)
            refine lv_goto (tgt := 12) F.1 F.2.1 dX4_isTold_57 (by decide) ?_
            exact ih y1 v16 mm fa H locs ls h hP hD hS (lv_sub hl [2, 3, 0] rfl)
          · have h := h.2 c15
            refine gv_iconst F dX4_isTold_52 ?_
            exact ret 0 (mm, fa) H locs 53 ls ⟨Or.inl rfl, h⟩ rfl hP hD hS dX4_isTold_53
  refine lv_aload_n F.1 F.2.1 dX4_isTold_0 rfl (lv_at hl 0 rfl) ?_
  refine lv_aload_n F.1 F.2.1 dX4_isTold_1 rfl (lv_at hl 0 rfl) ?_
  refine gv_get F hin4 hK hP 0 rfl rfl 1 (by decide) k757 rfl dX4_isTold_2 ?_
  refine gv_bipush F ⟨by decide, by decide⟩ dX4_isTold_5 ?_
  refine gc_VV (As := [.ref (ad 2), .int (iI 99)]) (wn := fun u : AR × AR => wMd cy ad o ss u.2 im wa le ro re u.1 nu) F hK hA hP hD hS (cp_md_fm hP) (cd_md_fm hD) (fun u H1 hk h1 _ => cj_md_fm hP hD u.1 u.2 H1 hk h1) (c_X4_minutesOn l D cy ad (ad 2) o fa mm 99 _ h) (cwV 2 F.2.2.2.2 (gG_V k873 k875 k43 k67 k876) rfl rfl rfl hd_X4_minutesOn ⟨Nat.le_of_ble_eq_true rfl, Nat.le_of_ble_eq_true rfl⟩) rfl rfl dX4_isTold_7 rfl rfl hl.1 (Nat.le_of_ble_eq_true rfl) ⟨Nat.le_of_ble_eq_true rfl, Nat.le_of_ble_eq_true rfl⟩ (fun u H locs h hP hD hS => ?_)
  obtain ⟨z17, z18⟩ := u
  try dsimp only at h hP hD
  refine gv_iconst F dX4_isTold_10 ?_
  refine lv_istore_n (lv' := [(2, .int (iI 0)), (0, .ref (ad 0)), (1, .int (iI x1))]) F.1 F.2.1 dX4_isTold_11 rfl hl (by decide) rfl (fun ls hl => ?_)
  obtain ⟨n19, h⟩ := h
  exact L12 n19 x1 0 z18 z17 H locs ls h hP hD hS (lv_sub hl [1, 2, 0] rfl)
abbrev rX4_which : Room := { frames := 7, cells := 0, slots := 0, locals := 164 }
set_option maxHeartbeats 4000000 in
set_option maxRecDepth 20000 in
theorem c_X4_which (l : Launch) (D : va_G) (cy : ClassId) (ad : Nat → Nat) (o : AR) (ss : AR) (mm : AR) (im : AR) (wa : AR) (le : AR) (ro : AR) (re : AR) (fa : AR) (nu : AR) (x1 x2 x3 : Int) (Q : Int → AR → AR → AR → Prop) (h : wX4_which o ss mm ro re fa x1 x2 x3 Q) : MetI l yX4_which (wT yX4_which cX4_which 6 (some .int)) rX4_which D cy [.ref (ad 0), .int (iI x1), .int (iI x2), .int (iI x3)] (wMd cy ad o ss mm im wa le ro re fa nu) (fun u : AR × AR × AR => wMd cy ad o ss u.1 im wa le ro u.2.1 u.2.2 nu) (fun r u => Q r u.1 u.2.1 u.2.2) := by
  refine gI_I (by decide) (Nat.le_of_ble_eq_true rfl) ?_
  intro p e s m args below meth c A Qg F hK hA ret H locs ls hl hP hD hS
  have F : CallFix p m c cX4_which 6 s args gT RX4 := F
  have hl : lv_has ls 6 [(0, .ref (ad 0)), (1, .int (iI x1)), (2, .int (iI x2)), (3, .int (iI x3))] := hl
  have L112 : ∀ (K64 : Int → Int → Int → Int → Int → AR → AR → AR → Prop) (hK64 : ∀ (y1 : Int) (y2 : Int) (y3 : Int) (y4 : Int) (y5 : Int) (mm : AR) (re : AR) (fa : AR) (H : Heap) (locs : List Loc) (ls : Array Slot), K64 y1 y2 y3 y4 y5 mm re fa → va_P D vwCl (wMd cy ad o ss mm im wa le ro re fa nu) H → va_D A (wMd cy ad o ss mm im wa le ro re fa nu) → va_S A s.heap H locs → lv_has ls 6 [(0, .ref (ad 0)), (1, .int (iI y1)), (2, .int (iI y2)), (3, .int (iI y3)), (4, .int (iI y4)), (5, .int (iI y5))] → W p l e rX4_which s m args below meth c H locs 0 0 Qg (F0 m 64 ls [])) (y1 : Int) (y2 : Int) (y3 : Int) (y4 : Int) (y5 : Int) (t0 : Int) (mm : AR) (re : AR) (fa : AR) (H : Heap) (locs : List Loc) (ls : Array Slot), wX4_which_112 o ss ro K64 Q y1 y2 y3 y4 y5 t0 mm re fa → va_P D vwCl (wMd cy ad o ss mm im wa le ro re fa nu) H → va_D A (wMd cy ad o ss mm im wa le ro re fa nu) → va_S A s.heap H locs → lv_has ls 6 [(0, .ref (ad 0)), (1, .int (iI y1)), (2, .int (iI y2)), (3, .int (iI y3)), (4, .int (iI y4)), (5, .int (iI y5))] → W p l e rX4_which s m args below meth c H locs 0 0 Qg (F0 m 112 ls [.int (iI t0), .ref (ad 2)]) := by
    intro K64 hK64
    intro y1 y2 y3 y4 y5 t0 mm re fa H locs ls h hP hD hS hl
    refine lv_iload F.1 F.2.1 dX4_which_112 (lv_at hl 5 rfl) ?_
    obtain ⟨g1, h⟩ := h
    obtain ⟨z2, ez2⟩ : ∃ z : AR, z = su mm t0 y5 := ⟨_, rfl⟩
    have h := h z2 ez2
    refine gv_iast (n := 147) (g := mm) (ws' := wMd cy ad o ss z2 im wa le ro re fa nu) F hK hP hD hS 2 rfl rfl (by decide) g1 (by subst ez2; exact rfl) dX4_which_114 (fun H locs hP hD hS => ?_)
    refine lv_iload F.1 F.2.1 dX4_which_115 (lv_at hl 4 rfl) ?_
    refine lv_aload_n F.1 F.2.1 dX4_which_117 rfl (lv_at hl 0 rfl) ?_
    refine lv_iload_n F.1 F.2.1 dX4_which_118 rfl (lv_at hl 1 rfl) ?_
    refine gc_VI (As := [.int (iI y1)]) (wn := fun u : AR × AR => wMd cy ad o ss u.1 im wa le ro re u.2 nu) F hK hA hP hD hS hP hD (fun u H1 _ h1 h2 => ⟨h1, h2⟩) (c_X4_isTold l D cy ad o ss z2 im wa le ro re fa nu y1 _ h) (cwV 1 F.2.2.2.2 (gG_V k1077 k1079 k58 k67 k1080) rfl rfl rfl hd_X4_isTold ⟨Nat.le_of_ble_eq_true rfl, Nat.le_of_ble_eq_true rfl⟩) rfl rfl dX4_which_119 rfl rfl hl.1 (Nat.le_of_ble_eq_true rfl) ⟨Nat.le_of_ble_eq_true rfl, Nat.le_of_ble_eq_true rfl⟩ (fun u5 u H locs h hP hD hS => ?_)
    obtain ⟨z3, z4⟩ := u
    try dsimp only at h hP hD
    obtain ⟨bu5, h⟩ := h
    refine gv_if_eq (tgt := 132) F (gRb bu5) dX4_which_122 (by decide) (fun c6 => ?_) (fun c6 => ?_)
    · have h := h.1 c6
      refine gv_iconst F dX4_which_132 ?_
      obtain ⟨g7, h⟩ := h
      refine gv_ior F g7 dX4_which_133 ?_
      refine gv_name (fun v8 ev8 => ?_)
      have h := h v8 ev8
      refine lv_istore (lv' := [(4, .int (iI v8)), (0, .ref (ad 0)), (1, .int (iI y1)), (2, .int (iI y2)), (3, .int (iI y3)), (5, .int (iI y5))]) F.1 F.2.1 dX4_which_134 hl (by decide) rfl (fun ls hl => ?_)
      obtain ⟨v9, ev9⟩ : ∃ z : Int, z = y5 + 1 := ⟨_, rfl⟩
      have h := h v9 ev9
      refine gv_iinc (lv' := [(5, .int (iI v9)), (4, .int (iI v8)), (0, .ref (ad 0)), (1, .int (iI y1)), (2, .int (iI y2)), (3, .int (iI y3))]) F dX4_which_136 hl (k := 5) rfl ev9 (by decide) rfl (fun ls hl => ?_)
      refine lv_goto (tgt := 64) F.1 F.2.1 dX4_which_139 (by decide) ?_
      exact hK64 y1 y2 y3 v8 v9 z3 re z4 H locs ls h hP hD hS (lv_sub hl [2, 3, 4, 5, 1, 0] rfl)
    · have h := h.2 c6
      refine gv_iconst F dX4_which_125 ?_
      refine lv_iload F.1 F.2.1 dX4_which_126 (lv_at hl 5 rfl) ?_
      obtain ⟨g10, h⟩ := h
      refine gv_ishl F g10 dX4_which_128 ?_
      refine lv_goto (tgt := 133) F.1 F.2.1 dX4_which_129 (by decide) ?_
      obtain ⟨g11, h⟩ := h
      refine gv_ior F g11 dX4_which_133 ?_
      refine gv_name (fun v12 ev12 => ?_)
      have h := h v12 ev12
      refine lv_istore (lv' := [(4, .int (iI v12)), (0, .ref (ad 0)), (1, .int (iI y1)), (2, .int (iI y2)), (3, .int (iI y3)), (5, .int (iI y5))]) F.1 F.2.1 dX4_which_134 hl (by decide) rfl (fun ls hl => ?_)
      obtain ⟨v13, ev13⟩ : ∃ z : Int, z = y5 + 1 := ⟨_, rfl⟩
      have h := h v13 ev13
      refine gv_iinc (lv' := [(5, .int (iI v13)), (4, .int (iI v12)), (0, .ref (ad 0)), (1, .int (iI y1)), (2, .int (iI y2)), (3, .int (iI y3))]) F dX4_which_136 hl (k := 5) rfl ev13 (by decide) rfl (fun ls hl => ?_)
      refine lv_goto (tgt := 64) F.1 F.2.1 dX4_which_139 (by decide) ?_
      exact hK64 y1 y2 y3 v12 v13 z3 re z4 H locs ls h hP hD hS (lv_sub hl [2, 3, 4, 5, 1, 0] rfl)
  have L77 : ∀ (K64 : Int → Int → Int → Int → Int → AR → AR → AR → Prop) (hK64 : ∀ (y1 : Int) (y2 : Int) (y3 : Int) (y4 : Int) (y5 : Int) (mm : AR) (re : AR) (fa : AR) (H : Heap) (locs : List Loc) (ls : Array Slot), K64 y1 y2 y3 y4 y5 mm re fa → va_P D vwCl (wMd cy ad o ss mm im wa le ro re fa nu) H → va_D A (wMd cy ad o ss mm im wa le ro re fa nu) → va_S A s.heap H locs → lv_has ls 6 [(0, .ref (ad 0)), (1, .int (iI y1)), (2, .int (iI y2)), (3, .int (iI y3)), (4, .int (iI y4)), (5, .int (iI y5))] → W p l e rX4_which s m args below meth c H locs 0 0 Qg (F0 m 64 ls [])) (y1 : Int) (y2 : Int) (y3 : Int) (y4 : Int) (y5 : Int) (t0 : Int) (t1 : Int) (mm : AR) (re : AR) (fa : AR) (H : Heap) (locs : List Loc) (ls : Array Slot), wX4_which_77 o ss ro K64 Q y1 y2 y3 y4 y5 t0 t1 mm re fa → va_P D vwCl (wMd cy ad o ss mm im wa le ro re fa nu) H → va_D A (wMd cy ad o ss mm im wa le ro re fa nu) → va_S A s.heap H locs → lv_has ls 6 [(0, .ref (ad 0)), (1, .int (iI y1)), (2, .int (iI y2)), (3, .int (iI y3)), (4, .int (iI y4)), (5, .int (iI y5))] → W p l e rX4_which s m args below meth c H locs 0 0 Qg (F0 m 77 ls [.int (iI t0), .int (iI t1)]) := by
    intro K64 hK64
    intro y1 y2 y3 y4 y5 t0 t1 mm re fa H locs ls h hP hD hS hl
    obtain ⟨g14, h⟩ := h
    obtain ⟨g15, h⟩ := h
    refine gv_icmp_ge (tgt := 142) F g14 g15 dX4_which_77 (by decide) (fun c16 => ?_) (fun c16 => ?_)
    · have h := h.1 c16
      refine lv_iload F.1 F.2.1 dX4_which_142 (lv_at hl 4 rfl) ?_
      exact ret y4 (mm, re, fa) H locs 144 ls h rfl hP hD hS dX4_which_144
    · have h := h.2 c16
      refine lv_aload_n F.1 F.2.1 dX4_which_80 rfl (lv_at hl 0 rfl) ?_
      refine gv_get F hin4 hK hP 0 rfl rfl 0 (by decide) k756 rfl dX4_which_81 ?_
      refine lv_aload_n F.1 F.2.1 dX4_which_84 rfl (lv_at hl 0 rfl) ?_
      refine gv_get F hin4 hK hP 0 rfl rfl 1 (by decide) k757 rfl dX4_which_85 ?_
      refine gc_SV (As := [.ref (ad 1), .ref (ad 2)]) (wn := fun u : AR => wMd cy ad o ss u im wa le ro re fa nu) F hK hA hP hD hS (cp_md_s_m hP) (cd_md_s_m hD) (fun u H1 hk h1 _ => cj_md_s_m hP hD u H1 hk h1) (c_X4_lays l D cy (ad 1) (ad 2) ss mm _ h) (cwS 2 F.2.2.2.2 (gG_S k842 k843 k67 k844) rfl rfl rfl hd_X4_lays ⟨Nat.le_of_ble_eq_true rfl, Nat.le_of_ble_eq_true rfl⟩) dX4_which_88 rfl rfl hl.1 (Nat.le_of_ble_eq_true rfl) ⟨Nat.le_of_ble_eq_true rfl, Nat.le_of_ble_eq_true rfl⟩ (fun z17 H locs h hP hD hS => ?_)
      try dsimp only at h hP hD
      refine lv_aload_n F.1 F.2.1 dX4_which_91 rfl (lv_at hl 0 rfl) ?_
      refine gv_get F hin4 hK hP 0 rfl rfl 1 (by decide) k757 rfl dX4_which_92 ?_
      refine lv_iload_n F.1 F.2.1 dX4_which_95 rfl (lv_at hl 3 rfl) ?_
      obtain ⟨g18, h⟩ := h
      refine gv_if_ne (tgt := 107) F g18 dX4_which_96 (by decide) (fun c19 => ?_) (fun c19 => ?_)
      · have h := h.1 c19
        refine lv_iload_n F.1 F.2.1 dX4_which_107 rfl (lv_at hl 1 rfl) ?_
        refine gv_iconst F dX4_which_108 ?_
        refine gc_SR (As := [.int (iI y1), .int (iI 1)]) F hK hA hP hS gPnil (c_X4_of l D cy y1 1 _ h) (cwS 2 F.2.2.2.2 (gG_S k862 k863 k67 k864) rfl rfl rfl hd_X4_of ⟨Nat.le_of_ble_eq_true rfl, Nat.le_of_ble_eq_true rfl⟩) dX4_which_109 rfl rfl hl.1 (Nat.le_of_ble_eq_true rfl) ⟨Nat.le_of_ble_eq_true rfl, Nat.le_of_ble_eq_true rfl⟩ (fun u20 H locs h hP hS => ?_)
        exact L112 _ hK64 y1 y2 y3 y4 y5 u20 z17 re fa H locs ls h hP hD hS (lv_sub hl [0, 1, 2, 3, 4, 5] rfl)
      · have h := h.2 c19
        refine lv_iload_n F.1 F.2.1 dX4_which_99 rfl (lv_at hl 2 rfl) ?_
        refine gv_iconst F dX4_which_100 ?_
        refine gc_SR (As := [.int (iI y2), .int (iI 0)]) F hK hA hP hS gPnil (c_X4_ask l D cy y2 0 _ h) (cwS 2 F.2.2.2.2 (gG_S k856 k857 k67 k858) rfl rfl rfl hd_X4_ask ⟨Nat.le_of_ble_eq_true rfl, Nat.le_of_ble_eq_true rfl⟩) dX4_which_101 rfl rfl hl.1 (Nat.le_of_ble_eq_true rfl) ⟨Nat.le_of_ble_eq_true rfl, Nat.le_of_ble_eq_true rfl⟩ (fun u21 H locs h hP hS => ?_)
        refine lv_goto (tgt := 112) F.1 F.2.1 dX4_which_104 (by decide) ?_
        exact L112 _ hK64 y1 y2 y3 y4 y5 u21 z17 re fa H locs ls h hP hD hS (lv_sub hl [0, 1, 2, 3, 4, 5] rfl)
  have L64 : ∀ (n : Nat) (y1 : Int) (y2 : Int) (y3 : Int) (y4 : Int) (y5 : Int) (mm : AR) (re : AR) (fa : AR) (H : Heap) (locs : List Loc) (ls : Array Slot), wX4_which_64 o ss ro Q n y1 y2 y3 y4 y5 mm re fa → va_P D vwCl (wMd cy ad o ss mm im wa le ro re fa nu) H → va_D A (wMd cy ad o ss mm im wa le ro re fa nu) → va_S A s.heap H locs → lv_has ls 6 [(0, .ref (ad 0)), (1, .int (iI y1)), (2, .int (iI y2)), (3, .int (iI y3)), (4, .int (iI y4)), (5, .int (iI y5))] → W p l e rX4_which s m args below meth c H locs 0 0 Qg (F0 m 64 ls []) := by
    intro  n
    induction n with
    | zero => intro _ _ _ _ _ _ _ _ _ _ _ h; exact h.elim
    | succ n ih =>
      intro y1 y2 y3 y4 y5 mm re fa H locs ls h hP hD hS hl
      rw [wX4_which_64_s] at h
      refine lv_iload F.1 F.2.1 dX4_which_64 (lv_at hl 5 rfl) ?_
      refine lv_iload_n F.1 F.2.1 dX4_which_66 rfl (lv_at hl 3 rfl) ?_
      obtain ⟨g22, h⟩ := h
      refine gv_if_ne (tgt := 75) F g22 dX4_which_67 (by decide) (fun c23 => ?_) (fun c23 => ?_)
      · have h := h.1 c23
        refine gv_bipush F ⟨by decide, by decide⟩ dX4_which_75 ?_
        exact L77 _ ih y1 y2 y3 y4 y5 10 y5 mm re fa H locs ls h hP hD hS (lv_sub hl [0, 1, 2, 3, 4, 5] rfl)
      · have h := h.2 c23
        refine gv_bipush F ⟨by decide, by decide⟩ dX4_which_70 ?_
        refine lv_goto (tgt := 77) F.1 F.2.1 dX4_which_72 (by decide) ?_
        exact L77 _ ih y1 y2 y3 y4 y5 6 y5 mm re fa H locs ls h hP hD hS (lv_sub hl [0, 1, 2, 3, 4, 5] rfl)
  refine lv_aload_n F.1 F.2.1 dX4_which_0 rfl (lv_at hl 0 rfl) ?_
  refine lv_iload_n F.1 F.2.1 dX4_which_1 rfl (lv_at hl 1 rfl) ?_
  refine gc_VR (As := [.int (iI x1)]) F hK hA hP hS hP (c_X4_isGroup l D cy ad o ss mm im wa le ro re fa nu x1 _ h) (cwV 1 F.2.2.2.2 (gG_V k865 k867 k41 k67 k868) rfl rfl rfl hd_X4_isGroup ⟨Nat.le_of_ble_eq_true rfl, Nat.le_of_ble_eq_true rfl⟩) rfl rfl dX4_which_2 rfl rfl hl.1 (Nat.le_of_ble_eq_true rfl) ⟨Nat.le_of_ble_eq_true rfl, Nat.le_of_ble_eq_true rfl⟩ (fun u24 H locs h hP hS => ?_)
  obtain ⟨bu24, h⟩ := h
  refine gv_if_eq (tgt := 16) F (gRb bu24) dX4_which_5 (by decide) (fun c25 => ?_) (fun c25 => ?_)
  · have h := h.1 c25
    refine lv_aload_n F.1 F.2.1 dX4_which_16 rfl (lv_at hl 0 rfl) ?_
    refine gv_iconst F dX4_which_17 ?_
    refine gc_VI (As := [.int (iI (-1))]) (wn := fun u : AR => wMd cy ad o ss mm im wa le ro u fa nu) F hK hA hP hD hS hP hD (fun u H1 _ h1 h2 => ⟨h1, h2⟩) (c_X4_no l D cy ad o ss mm im wa le ro re fa nu (-1) _ h) (cwV 1 F.2.2.2.2 (gG_V k812 k814 k34 k67 k815) rfl rfl rfl hd_X4_no ⟨Nat.le_of_ble_eq_true rfl, Nat.le_of_ble_eq_true rfl⟩) rfl rfl dX4_which_18 rfl rfl hl.1 (Nat.le_of_ble_eq_true rfl) ⟨Nat.le_of_ble_eq_true rfl, Nat.le_of_ble_eq_true rfl⟩ (fun u27 z26 H locs h hP hD hS => ?_)
    try dsimp only at h hP hD
    exact ret u27 (mm, z26, fa) H locs 21 ls h rfl hP hD hS dX4_which_21
  · have h := h.2 c25
    refine lv_aload_n F.1 F.2.1 dX4_which_8 rfl (lv_at hl 0 rfl) ?_
    refine lv_iload_n F.1 F.2.1 dX4_which_9 rfl (lv_at hl 2 rfl) ?_
    refine gc_VR (As := [.int (iI x2)]) F hK hA hP hS hP (c_X4_isQuestion l D cy ad o ss mm im wa le ro re fa nu x2 _ h) (cwV 1 F.2.2.2.2 (gG_V k869 k871 k42 k67 k872) rfl rfl rfl hd_X4_isQuestion ⟨Nat.le_of_ble_eq_true rfl, Nat.le_of_ble_eq_true rfl⟩) rfl rfl dX4_which_10 rfl rfl hl.1 (Nat.le_of_ble_eq_true rfl) ⟨Nat.le_of_ble_eq_true rfl, Nat.le_of_ble_eq_true rfl⟩ (fun u28 H locs h hP hS => ?_)
    obtain ⟨bu28, h⟩ := h
    refine gv_if_ne (tgt := 22) F (gRb bu28) dX4_which_13 (by decide) (fun c29 => ?_) (fun c29 => ?_)
    · have h := h.1 c29
      refine lv_iload_n F.1 F.2.1 dX4_which_22 rfl (lv_at hl 3 rfl) ?_
      refine gv_iconst F dX4_which_23 ?_
      refine gv_iconst F dX4_which_24 ?_
      refine gc_SR (As := [.int (iI x3), .int (iI 0), .int (iI 1)]) F hK hA hP hS gPnil (c_X4_isIn l D cy x3 0 1 _ h) (cwS 3 F.2.2.2.2 (gG_S k832 k833 k67 k834) rfl rfl rfl hd_X4_isIn ⟨Nat.le_of_ble_eq_true rfl, Nat.le_of_ble_eq_true rfl⟩) dX4_which_25 rfl rfl hl.1 (Nat.le_of_ble_eq_true rfl) ⟨Nat.le_of_ble_eq_true rfl, Nat.le_of_ble_eq_true rfl⟩ (fun u30 H locs h hP hS => ?_)
      obtain ⟨bu30, h⟩ := h
      refine gv_if_ne (tgt := 38) F (gRb bu30) dX4_which_28 (by decide) (fun c31 => ?_) (fun c31 => ?_)
      · have h := h.1 c31
        refine lv_aload_n F.1 F.2.1 dX4_which_38 rfl (lv_at hl 0 rfl) ?_
        refine gv_get F hin4 hK hP 0 rfl rfl 9 (by decide) k765 rfl dX4_which_39 ?_
        refine lv_aload_n F.1 F.2.1 dX4_which_42 rfl (lv_at hl 0 rfl) ?_
        refine gv_get F hin4 hK hP 0 rfl rfl 0 (by decide) k756 rfl dX4_which_43 ?_
        refine gv_iconst F dX4_which_46 ?_
        refine gv_iald (n := 147) (g := ss) F hK hP 1 rfl rfl (by decide) ⟨by decide, by decide⟩ dX4_which_47 ?_
        obtain ⟨g32, h⟩ := h
        obtain ⟨g33, h⟩ := h
        refine gv_icmp_eq (tgt := 58) F g32 g33 dX4_which_48 (by decide) (fun c34 => ?_) (fun c34 => ?_)
        · have h := h.1 c34
          refine gv_iconst F dX4_which_58 ?_
          refine lv_istore (lv' := [(4, .int (iI 0)), (0, .ref (ad 0)), (1, .int (iI x1)), (2, .int (iI x2)), (3, .int (iI x3))]) F.1 F.2.1 dX4_which_59 hl (by decide) rfl (fun ls hl => ?_)
          refine gv_iconst F dX4_which_61 ?_
          refine lv_istore (lv' := [(5, .int (iI 0)), (4, .int (iI 0)), (0, .ref (ad 0)), (1, .int (iI x1)), (2, .int (iI x2)), (3, .int (iI x3))]) F.1 F.2.1 dX4_which_62 hl (by decide) rfl (fun ls hl => ?_)
          obtain ⟨n35, h⟩ := h
          exact L64 n35 x1 x2 x3 0 0 mm re fa H locs ls h hP hD hS (lv_sub hl [2, 3, 4, 5, 1, 0] rfl)
        · have h := h.2 c34
          refine lv_aload_n F.1 F.2.1 dX4_which_51 rfl (lv_at hl 0 rfl) ?_
          refine gv_bipush F ⟨by decide, by decide⟩ dX4_which_52 ?_
          refine gc_VI (As := [.int (iI (-3))]) (wn := fun u : AR => wMd cy ad o ss mm im wa le ro u fa nu) F hK hA hP hD hS hP hD (fun u H1 _ h1 h2 => ⟨h1, h2⟩) (c_X4_no l D cy ad o ss mm im wa le ro re fa nu (-3) _ h) (cwV 1 F.2.2.2.2 (gG_V k812 k814 k34 k67 k815) rfl rfl rfl hd_X4_no ⟨Nat.le_of_ble_eq_true rfl, Nat.le_of_ble_eq_true rfl⟩) rfl rfl dX4_which_54 rfl rfl hl.1 (Nat.le_of_ble_eq_true rfl) ⟨Nat.le_of_ble_eq_true rfl, Nat.le_of_ble_eq_true rfl⟩ (fun u37 z36 H locs h hP hD hS => ?_)
          try dsimp only at h hP hD
          exact ret u37 (mm, z36, fa) H locs 57 ls h rfl hP hD hS dX4_which_57
      · have h := h.2 c31
        refine lv_aload_n F.1 F.2.1 dX4_which_31 rfl (lv_at hl 0 rfl) ?_
        refine gv_bipush F ⟨by decide, by decide⟩ dX4_which_32 ?_
        refine gc_VI (As := [.int (iI (-2))]) (wn := fun u : AR => wMd cy ad o ss mm im wa le ro u fa nu) F hK hA hP hD hS hP hD (fun u H1 _ h1 h2 => ⟨h1, h2⟩) (c_X4_no l D cy ad o ss mm im wa le ro re fa nu (-2) _ h) (cwV 1 F.2.2.2.2 (gG_V k812 k814 k34 k67 k815) rfl rfl rfl hd_X4_no ⟨Nat.le_of_ble_eq_true rfl, Nat.le_of_ble_eq_true rfl⟩) rfl rfl dX4_which_34 rfl rfl hl.1 (Nat.le_of_ble_eq_true rfl) ⟨Nat.le_of_ble_eq_true rfl, Nat.le_of_ble_eq_true rfl⟩ (fun u39 z38 H locs h hP hD hS => ?_)
        try dsimp only at h hP hD
        exact ret u39 (mm, z38, fa) H locs 37 ls h rfl hP hD hS dX4_which_37
    · have h := h.2 c29
      refine lv_aload_n F.1 F.2.1 dX4_which_16 rfl (lv_at hl 0 rfl) ?_
      refine gv_iconst F dX4_which_17 ?_
      refine gc_VI (As := [.int (iI (-1))]) (wn := fun u : AR => wMd cy ad o ss mm im wa le ro u fa nu) F hK hA hP hD hS hP hD (fun u H1 _ h1 h2 => ⟨h1, h2⟩) (c_X4_no l D cy ad o ss mm im wa le ro re fa nu (-1) _ h) (cwV 1 F.2.2.2.2 (gG_V k812 k814 k34 k67 k815) rfl rfl rfl hd_X4_no ⟨Nat.le_of_ble_eq_true rfl, Nat.le_of_ble_eq_true rfl⟩) rfl rfl dX4_which_18 rfl rfl hl.1 (Nat.le_of_ble_eq_true rfl) ⟨Nat.le_of_ble_eq_true rfl, Nat.le_of_ble_eq_true rfl⟩ (fun u41 z40 H locs h hP hD hS => ?_)
      try dsimp only at h hP hD
      exact ret u41 (mm, z40, fa) H locs 21 ls h rfl hP hD hS dX4_which_21
abbrev rX4_judge : Room := { frames := 5, cells := 0, slots := 0, locals := 118 }
set_option maxHeartbeats 4000000 in
set_option maxRecDepth 20000 in
theorem c_X4_judge (l : Launch) (D : va_G) (cy : ClassId) (ad : Nat → Nat) (o : AR) (ss : AR) (mm : AR) (im : AR) (wa : AR) (le : AR) (ro : AR) (re : AR) (fa : AR) (nu : AR) (x1 : Int) (Q : Int → AR → AR → AR → AR → Prop) (h : wX4_judge o ss mm ro re fa x1 Q) : MetI l yX4_judge (wT yX4_judge cX4_judge 4 (some .int)) rX4_judge D cy [.ref (ad 0), .int (iI x1)] (wMd cy ad o ss mm im wa le ro re fa nu) (fun u : AR × AR × AR × AR => wMd cy ad u.1 ss u.2.1 im wa le ro u.2.2.1 u.2.2.2 nu) (fun r u => Q r u.1 u.2.1 u.2.2.1 u.2.2.2) := by
  refine gI_I (by decide) (Nat.le_of_ble_eq_true rfl) ?_
  intro p e s m args below meth c A Qg F hK hA ret H locs ls hl hP hD hS
  have F : CallFix p m c cX4_judge 4 s args gT RX4 := F
  have hl : lv_has ls 4 [(0, .ref (ad 0)), (1, .int (iI x1))] := hl
  have L37 : ∀ (n : Nat) (y1 : Int) (y2 : Int) (y3 : Int) (o : AR) (mm : AR) (re : AR) (fa : AR) (H : Heap) (locs : List Loc) (ls : Array Slot), wX4_judge_37 ss ro Q n y1 y2 y3 o mm re fa → va_P D vwCl (wMd cy ad o ss mm im wa le ro re fa nu) H → va_D A (wMd cy ad o ss mm im wa le ro re fa nu) → va_S A s.heap H locs → lv_has ls 4 [(0, .ref (ad 0)), (1, .int (iI y1)), (2, .int (iI y2)), (3, .int (iI y3))] → W p l e rX4_judge s m args below meth c H locs 0 0 Qg (F0 m 37 ls []) := by
    intro  n
    induction n with
    | zero => intro _ _ _ _ _ _ _ _ _ _ h; exact h.elim
    | succ n ih =>
      intro y1 y2 y3 o mm re fa H locs ls h hP hD hS hl
      rw [wX4_judge_37_s] at h
      refine lv_iload_n F.1 F.2.1 dX4_judge_37 rfl (lv_at hl 3 rfl) ?_
      refine lv_iload_n F.1 F.2.1 dX4_judge_38 rfl (lv_at hl 2 rfl) ?_
      obtain ⟨g1, h⟩ := h
      obtain ⟨g2, h⟩ := h
      refine gv_icmp_ge (tgt := 75) F g1 g2 dX4_judge_39 (by decide) (fun c3 => ?_) (fun c3 => ?_)
      · have h := h.1 c3
        refine gv_bipush F ⟨by decide, by decide⟩ dX4_judge_75 ?_
        exact ret (-9) (o, mm, re, fa) H locs 77 ls h rfl hP hD hS dX4_judge_77
      · have h := h.2 c3
        refine lv_aload_n F.1 F.2.1 dX4_judge_42 rfl (lv_at hl 0 rfl) ?_
        refine gv_get F hin4 hK hP 0 rfl rfl 1 (by decide) k757 rfl dX4_judge_43 ?_
        refine lv_iload_n F.1 F.2.1 dX4_judge_46 rfl (lv_at hl 1 rfl) ?_
        refine gc_SR (As := [.ref (ad 2), .int (iI y1)]) F hK hA hP hS (cp_md_m hP) (c_X4_answersOf l D cy (ad 2) mm y1 _ h) (cwS 2 F.2.2.2.2 (gG_S k966 k967 k67 k968) rfl rfl rfl hd_X4_answersOf ⟨Nat.le_of_ble_eq_true rfl, Nat.le_of_ble_eq_true rfl⟩) dX4_judge_47 rfl rfl hl.1 (Nat.le_of_ble_eq_true rfl) ⟨Nat.le_of_ble_eq_true rfl, Nat.le_of_ble_eq_true rfl⟩ (fun u4 H locs h hP hS => ?_)
        refine lv_aload_n F.1 F.2.1 dX4_judge_50 rfl (lv_at hl 0 rfl) ?_
        refine gv_get F hin4 hK hP 0 rfl rfl 6 (by decide) k762 rfl dX4_judge_51 ?_
        refine lv_iload_n F.1 F.2.1 dX4_judge_54 rfl (lv_at hl 3 rfl) ?_
        obtain ⟨g5, h⟩ := h
        refine gv_iald (n := 12) (g := ro) F hK hP 6 rfl rfl (by decide) g5 dX4_judge_55 ?_
        obtain ⟨g6, h⟩ := h
        obtain ⟨g7, h⟩ := h
        refine gv_icmp_eq (tgt := 61) F g6 g7 dX4_judge_56 (by decide) (fun c8 => ?_) (fun c8 => ?_)
        · have h := h.1 c8
          refine lv_aload_n F.1 F.2.1 dX4_judge_61 rfl (lv_at hl 0 rfl) ?_
          refine lv_aload_n F.1 F.2.1 dX4_judge_62 rfl (lv_at hl 0 rfl) ?_
          refine gv_get F hin4 hK hP 0 rfl rfl 1 (by decide) k757 rfl dX4_judge_63 ?_
          refine gc_VV (As := [.ref (ad 2)]) (wn := fun u : AR × AR => wMd cy ad o ss u.2 im wa le ro re u.1 nu) F hK hA hP hD hS (cp_md_fm hP) (cd_md_fm hD) (fun u H1 hk h1 _ => cj_md_fm hP hD u.1 u.2 H1 hk h1) (c_X4_minute l D cy ad (ad 2) o fa mm _ h) (cwV 1 F.2.2.2.2 (gG_V k877 k879 k44 k67 k880) rfl rfl rfl hd_X4_minute ⟨Nat.le_of_ble_eq_true rfl, Nat.le_of_ble_eq_true rfl⟩) rfl rfl dX4_judge_66 rfl rfl hl.1 (Nat.le_of_ble_eq_true rfl) ⟨Nat.le_of_ble_eq_true rfl, Nat.le_of_ble_eq_true rfl⟩ (fun u H locs h hP hD hS => ?_)
          obtain ⟨z9, z10⟩ := u
          try dsimp only at h hP hD
          obtain ⟨v11, ev11⟩ : ∃ z : Int, z = y3 + 1 := ⟨_, rfl⟩
          have h := h v11 ev11
          refine gv_iinc (lv' := [(3, .int (iI v11)), (0, .ref (ad 0)), (1, .int (iI y1)), (2, .int (iI y2))]) F dX4_judge_69 hl (k := 3) rfl ev11 (by decide) rfl (fun ls hl => ?_)
          refine lv_goto (tgt := 37) F.1 F.2.1 dX4_judge_72 (by decide) ?_
          exact ih y1 y2 v11 o z10 re z9 H locs ls h hP hD hS (lv_sub hl [1, 2, 3, 0] rfl)
        · have h := h.2 c8
          refine lv_iload_n F.1 F.2.1 dX4_judge_59 rfl (lv_at hl 3 rfl) ?_
          exact ret y3 (o, mm, re, fa) H locs 60 ls h rfl hP hD hS dX4_judge_60
  refine lv_aload_n F.1 F.2.1 dX4_judge_0 rfl (lv_at hl 0 rfl) ?_
  refine lv_iload_n F.1 F.2.1 dX4_judge_1 rfl (lv_at hl 1 rfl) ?_
  refine gc_VR (As := [.int (iI x1)]) F hK hA hP hS hP (c_X4_isGroup l D cy ad o ss mm im wa le ro re fa nu x1 _ h) (cwV 1 F.2.2.2.2 (gG_V k865 k867 k41 k67 k868) rfl rfl rfl hd_X4_isGroup ⟨Nat.le_of_ble_eq_true rfl, Nat.le_of_ble_eq_true rfl⟩) rfl rfl dX4_judge_2 rfl rfl hl.1 (Nat.le_of_ble_eq_true rfl) ⟨Nat.le_of_ble_eq_true rfl, Nat.le_of_ble_eq_true rfl⟩ (fun u12 H locs h hP hS => ?_)
  obtain ⟨bu12, h⟩ := h
  refine gv_if_ne (tgt := 14) F (gRb bu12) dX4_judge_5 (by decide) (fun c13 => ?_) (fun c13 => ?_)
  · have h := h.1 c13
    refine lv_aload_n F.1 F.2.1 dX4_judge_14 rfl (lv_at hl 0 rfl) ?_
    refine gv_get F hin4 hK hP 0 rfl rfl 9 (by decide) k765 rfl dX4_judge_15 ?_
    refine gv_name (fun v14 ev14 => ?_)
    have h := h v14 ev14
    refine lv_istore_n (lv' := [(2, .int (iI v14)), (0, .ref (ad 0)), (1, .int (iI x1))]) F.1 F.2.1 dX4_judge_18 rfl hl (by decide) rfl (fun ls hl => ?_)
    refine lv_aload_n F.1 F.2.1 dX4_judge_19 rfl (lv_at hl 1 rfl) ?_
    refine gv_iconst F dX4_judge_20 ?_
    obtain ⟨z15, ez15⟩ : ∃ z : AR, z = su o 9 0 := ⟨_, rfl⟩
    have h := h z15 ez15
    refine gv_put (ws' := wMd cy ad z15 ss mm im wa le ro re fa nu) F hin4 tyX4 tyX4_ok nmX4 hK hP hD hS 0 rfl rfl 9 (by decide) k765 rfl (ty := .int) (by decide +kernel) rfl rfl (Nat.le_of_ble_eq_true rfl) (by subst ez15; exact wMd_o9 rfl) dX4_judge_21 (fun H locs hP hD hS => ?_)
    refine lv_aload_n F.1 F.2.1 dX4_judge_24 rfl (lv_at hl 1 rfl) ?_
    refine gv_get F hin4 hK hP 0 rfl rfl 0 (by decide) k756 rfl dX4_judge_25 ?_
    refine lv_aload_n F.1 F.2.1 dX4_judge_28 rfl (lv_at hl 1 rfl) ?_
    refine gv_get F hin4 hK hP 0 rfl rfl 1 (by decide) k757 rfl dX4_judge_29 ?_
    refine gc_SV (As := [.ref (ad 1), .ref (ad 2)]) (wn := fun u : AR => wMd cy ad z15 ss u im wa le ro re fa nu) F hK hA hP hD hS (cp_md_s_m hP) (cd_md_s_m hD) (fun u H1 hk h1 _ => cj_md_s_m hP hD u H1 hk h1) (c_X4_lays l D cy (ad 1) (ad 2) ss mm _ h) (cwS 2 F.2.2.2.2 (gG_S k842 k843 k67 k844) rfl rfl rfl hd_X4_lays ⟨Nat.le_of_ble_eq_true rfl, Nat.le_of_ble_eq_true rfl⟩) dX4_judge_32 rfl rfl hl.1 (Nat.le_of_ble_eq_true rfl) ⟨Nat.le_of_ble_eq_true rfl, Nat.le_of_ble_eq_true rfl⟩ (fun z16 H locs h hP hD hS => ?_)
    try dsimp only at h hP hD
    refine gv_iconst F dX4_judge_35 ?_
    refine lv_istore_n (lv' := [(3, .int (iI 0)), (2, .int (iI v14)), (0, .ref (ad 0)), (1, .int (iI x1))]) F.1 F.2.1 dX4_judge_36 rfl hl (by decide) rfl (fun ls hl => ?_)
    obtain ⟨n17, h⟩ := h
    exact L37 n17 x1 v14 0 z15 z16 re fa H locs ls h hP hD hS (lv_sub hl [2, 3, 1, 0] rfl)
  · have h := h.2 c13
    refine lv_aload_n F.1 F.2.1 dX4_judge_8 rfl (lv_at hl 0 rfl) ?_
    refine gv_iconst F dX4_judge_9 ?_
    refine gc_VI (As := [.int (iI (-1))]) (wn := fun u : AR => wMd cy ad o ss mm im wa le ro u fa nu) F hK hA hP hD hS hP hD (fun u H1 _ h1 h2 => ⟨h1, h2⟩) (c_X4_no l D cy ad o ss mm im wa le ro re fa nu (-1) _ h) (cwV 1 F.2.2.2.2 (gG_V k812 k814 k34 k67 k815) rfl rfl rfl hd_X4_no ⟨Nat.le_of_ble_eq_true rfl, Nat.le_of_ble_eq_true rfl⟩) rfl rfl dX4_judge_10 rfl rfl hl.1 (Nat.le_of_ble_eq_true rfl) ⟨Nat.le_of_ble_eq_true rfl, Nat.le_of_ble_eq_true rfl⟩ (fun u19 z18 H locs h hP hD hS => ?_)
    try dsimp only at h hP hD
    exact ret u19 (o, mm, z18, fa) H locs 13 ls h rfl hP hD hS dX4_judge_13
abbrev rX4_clear : Room := { frames := 0, cells := 0, slots := 0, locals := 0 }
set_option maxHeartbeats 4000000 in
set_option maxRecDepth 20000 in
theorem c_X4_clear (l : Launch) (D : va_G) (cy : ClassId) (ad : Nat → Nat) (o : AR) (ss : AR) (mm : AR) (im : AR) (wa : AR) (le : AR) (ro : AR) (re : AR) (fa : AR) (nu : AR) (Q : Int → AR → Prop) (h : wX4_clear o Q) : MetI l yX4_clear (wT yX4_clear cX4_clear 2 (some .int)) rX4_clear D cy [.ref (ad 0)] (wMd cy ad o ss mm im wa le ro re fa nu) (fun u : AR => wMd cy ad u ss mm im wa le ro re fa nu) (fun r u => Q r u) := by
  refine gI_I (by decide) (Nat.le_of_ble_eq_true rfl) ?_
  intro p e s m args below meth c A Qg F hK hA ret H locs ls hl hP hD hS
  have F : CallFix p m c cX4_clear 2 s args gT RX4 := F
  have hl : lv_has ls 2 [(0, .ref (ad 0))] := hl
  refine lv_aload_n F.1 F.2.1 dX4_clear_0 rfl (lv_at hl 0 rfl) ?_
  refine gv_get F hin4 hK hP 0 rfl rfl 9 (by decide) k765 rfl dX4_clear_1 ?_
  refine gv_name (fun v1 ev1 => ?_)
  have h := h v1 ev1
  refine lv_istore_n (lv' := [(1, .int (iI v1)), (0, .ref (ad 0))]) F.1 F.2.1 dX4_clear_4 rfl hl (by decide) rfl (fun ls hl => ?_)
  refine lv_aload_n F.1 F.2.1 dX4_clear_5 rfl (lv_at hl 1 rfl) ?_
  refine gv_iconst F dX4_clear_6 ?_
  obtain ⟨z2, ez2⟩ : ∃ z : AR, z = su o 9 0 := ⟨_, rfl⟩
  have h := h z2 ez2
  refine gv_put (ws' := wMd cy ad z2 ss mm im wa le ro re fa nu) F hin4 tyX4 tyX4_ok nmX4 hK hP hD hS 0 rfl rfl 9 (by decide) k765 rfl (ty := .int) (by decide +kernel) rfl rfl (Nat.le_of_ble_eq_true rfl) (by subst ez2; exact wMd_o9 rfl) dX4_clear_7 (fun H locs hP hD hS => ?_)
  refine lv_iload_n F.1 F.2.1 dX4_clear_10 rfl (lv_at hl 0 rfl) ?_
  exact ret v1 z2 H locs 11 ls h rfl hP hD hS dX4_clear_11
abbrev rX4_drawn : Room := { frames := 0, cells := 0, slots := 0, locals := 0 }
set_option maxHeartbeats 4000000 in
set_option maxRecDepth 20000 in
theorem c_X4_drawn (l : Launch) (D : va_G) (cy : ClassId) (ad : Nat → Nat) (o : AR) (ss : AR) (mm : AR) (im : AR) (wa : AR) (le : AR) (ro : AR) (re : AR) (fa : AR) (nu : AR) (x1 : Int) (Q : Int → AR → Prop) (h : wX4_drawn o x1 Q) : MetI l yX4_drawn (wT yX4_drawn cX4_drawn 2 (some .int)) rX4_drawn D cy [.ref (ad 0), .int (iI x1)] (wMd cy ad o ss mm im wa le ro re fa nu) (fun u : AR => wMd cy ad u ss mm im wa le ro re fa nu) (fun r u => Q r u) := by
  refine gI_I (by decide) (Nat.le_of_ble_eq_true rfl) ?_
  intro p e s m args below meth c A Qg F hK hA ret H locs ls hl hP hD hS
  have F : CallFix p m c cX4_drawn 2 s args gT RX4 := F
  have hl : lv_has ls 2 [(0, .ref (ad 0)), (1, .int (iI x1))] := hl
  refine lv_aload_n F.1 F.2.1 dX4_drawn_0 rfl (lv_at hl 0 rfl) ?_
  refine lv_aload_n F.1 F.2.1 dX4_drawn_1 rfl (lv_at hl 0 rfl) ?_
  refine gv_get F hin4 hK hP 0 rfl rfl 16 (by decide) k772 rfl dX4_drawn_2 ?_
  refine gv_ldc (n := 1664525) F k1097 rfl dX4_drawn_5 ?_
  refine gv_imul F dX4_drawn_7 ?_
  refine gv_ldc (n := 1013904223) F k1098 rfl dX4_drawn_8 ?_
  refine gv_iadd F dX4_drawn_10 ?_
  obtain ⟨z1, ez1⟩ : ∃ z : AR, z = su o 16 (((o 16) * 1664525) + 1013904223) := ⟨_, rfl⟩
  have h := h z1 ez1
  refine gv_put (ws' := wMd cy ad z1 ss mm im wa le ro re fa nu) F hin4 tyX4 tyX4_ok nmX4 hK hP hD hS 0 rfl rfl 16 (by decide) k772 rfl (ty := .int) (by decide +kernel) rfl rfl (Nat.le_of_ble_eq_true rfl) (by subst ez1; exact wMd_o16 rfl) dX4_drawn_11 (fun H locs hP hD hS => ?_)
  refine lv_aload_n F.1 F.2.1 dX4_drawn_14 rfl (lv_at hl 0 rfl) ?_
  refine gv_get F hin4 hK hP 0 rfl rfl 16 (by decide) k772 rfl dX4_drawn_15 ?_
  refine gv_ldc (n := 2147483647) F k1099 rfl dX4_drawn_18 ?_
  refine gv_iand F 31 (by decide) (by decide) dX4_drawn_20 ?_
  refine gv_sipush F ⟨by decide, by decide⟩ dX4_drawn_21 ?_
  obtain ⟨g2, h⟩ := h
  refine gv_idiv F ⟨g2, by decide, by decide⟩ dX4_drawn_24 ?_
  refine lv_iload_n F.1 F.2.1 dX4_drawn_25 rfl (lv_at hl 1 rfl) ?_
  obtain ⟨g3, h⟩ := h
  refine gv_irem F g3 dX4_drawn_26 ?_
  exact ret ((((z1 16) % (2147483647 + 1)) / 256) % x1) z1 H locs 27 ls h rfl hP hD hS dX4_drawn_27
abbrev rX4_lots : Room := { frames := 6, cells := 0, slots := 0, locals := 141 }
set_option maxHeartbeats 4000000 in
set_option maxRecDepth 20000 in
theorem c_X4_lots (l : Launch) (D : va_G) (cy : ClassId) (ad : Nat → Nat) (o : AR) (ss : AR) (mm : AR) (im : AR) (wa : AR) (le : AR) (ro : AR) (re : AR) (fa : AR) (nu : AR) (x1 x2 x3 : Int) (Q : Int → AR → AR → AR → AR → Prop) (h : wX4_lots o ss mm re fa x1 x2 x3 Q) : MetI l yX4_lots (wT yX4_lots cX4_lots 7 (some .int)) rX4_lots D cy [.ref (ad 0), .int (iI x1), .int (iI x2), .int (iI x3)] (wMd cy ad o ss mm im wa le ro re fa nu) (fun u : AR × AR × AR × AR => wMd cy ad u.1 ss u.2.1 im wa le ro u.2.2.1 u.2.2.2 nu) (fun r u => Q r u.1 u.2.1 u.2.2.1 u.2.2.2) := by
  refine gI_I (by decide) (Nat.le_of_ble_eq_true rfl) ?_
  intro p e s m args below meth c A Qg F hK hA ret H locs ls hl hP hD hS
  have F : CallFix p m c cX4_lots 7 s args gT RX4 := F
  have hl : lv_has ls 7 [(0, .ref (ad 0)), (1, .int (iI x1)), (2, .int (iI x2)), (3, .int (iI x3))] := hl
  have L149 : ∀ (K52 : Int → Int → Int → Int → AR → AR → AR → AR → Prop) (hK52 : ∀ (y1 : Int) (y3 : Int) (y4 : Int) (y5 : Int) (o : AR) (mm : AR) (re : AR) (fa : AR) (H : Heap) (locs : List Loc) (ls : Array Slot), K52 y1 y3 y4 y5 o mm re fa → va_P D vwCl (wMd cy ad o ss mm im wa le ro re fa nu) H → va_D A (wMd cy ad o ss mm im wa le ro re fa nu) → va_S A s.heap H locs → lv_has ls 7 [(0, .ref (ad 0)), (1, .int (iI y1)), (3, .int (iI y3)), (4, .int (iI y4)), (5, .int (iI y5))] → W p l e rX4_lots s m args below meth c H locs 0 0 Qg (F0 m 52 ls [])) (n : Nat) (y1 : Int) (y3 : Int) (y4 : Int) (y5 : Int) (y6 : Int) (o : AR) (mm : AR) (re : AR) (fa : AR) (H : Heap) (locs : List Loc) (ls : Array Slot), wX4_lots_149 ss K52 Q n y1 y3 y4 y5 y6 o mm re fa → va_P D vwCl (wMd cy ad o ss mm im wa le ro re fa nu) H → va_D A (wMd cy ad o ss mm im wa le ro re fa nu) → va_S A s.heap H locs → lv_has ls 7 [(0, .ref (ad 0)), (1, .int (iI y1)), (3, .int (iI y3)), (4, .int (iI y4)), (5, .int (iI y5)), (6, .int (iI y6))] → W p l e rX4_lots s m args below meth c H locs 0 0 Qg (F0 m 149 ls []) := by
    intro K52 hK52 n
    induction n with
    | zero => intro _ _ _ _ _ _ _ _ _ _ _ _ h; exact h.elim
    | succ n ih =>
      intro y1 y3 y4 y5 y6 o mm re fa H locs ls h hP hD hS hl
      rw [wX4_lots_149_s] at h
      refine lv_iload F.1 F.2.1 dX4_lots_149 (lv_at hl 5 rfl) ?_
      refine lv_aload_n F.1 F.2.1 dX4_lots_151 rfl (lv_at hl 0 rfl) ?_
      refine gv_get F hin4 hK hP 0 rfl rfl 1 (by decide) k757 rfl dX4_lots_152 ?_
      refine gv_iconst F dX4_lots_155 ?_
      refine gv_iald (n := 147) (g := mm) F hK hP 2 rfl rfl (by decide) ⟨by decide, by decide⟩ dX4_lots_156 ?_
      obtain ⟨g1, h⟩ := h
      obtain ⟨g2, h⟩ := h
      refine gv_icmp_ge (tgt := 185) F g1 g2 dX4_lots_157 (by decide) (fun c3 => ?_) (fun c3 => ?_)
      · have h := h.1 c3
        obtain ⟨v4, ev4⟩ : ∃ z : Int, z = y5 + 1 := ⟨_, rfl⟩
        have h := h v4 ev4
        refine gv_iinc (lv' := [(5, .int (iI v4)), (0, .ref (ad 0)), (1, .int (iI y1)), (3, .int (iI y3)), (4, .int (iI y4)), (6, .int (iI y6))]) F dX4_lots_185 hl (k := 4) rfl ev4 (by decide) rfl (fun ls hl => ?_)
        refine lv_goto (tgt := 52) F.1 F.2.1 dX4_lots_188 (by decide) ?_
        exact hK52 y1 y3 y4 v4 o mm re fa H locs ls h hP hD hS (lv_sub hl [1, 2, 3, 4, 0] rfl)
      · have h := h.2 c3
        refine lv_iload_n F.1 F.2.1 dX4_lots_160 rfl (lv_at hl 2 rfl) ?_
        refine gv_iconst F dX4_lots_161 ?_
        obtain ⟨g5, h⟩ := h
        refine gv_icmp_ne (tgt := 185) F g5 ⟨by decide, by decide⟩ dX4_lots_162 (by decide) (fun c6 => ?_) (fun c6 => ?_)
        · have h := h.1 c6
          obtain ⟨v7, ev7⟩ : ∃ z : Int, z = y5 + 1 := ⟨_, rfl⟩
          have h := h v7 ev7
          refine gv_iinc (lv' := [(5, .int (iI v7)), (0, .ref (ad 0)), (1, .int (iI y1)), (3, .int (iI y3)), (4, .int (iI y4)), (6, .int (iI y6))]) F dX4_lots_185 hl (k := 4) rfl ev7 (by decide) rfl (fun ls hl => ?_)
          refine lv_goto (tgt := 52) F.1 F.2.1 dX4_lots_188 (by decide) ?_
          exact hK52 y1 y3 y4 v7 o mm re fa H locs ls h hP hD hS (lv_sub hl [1, 2, 3, 4, 0] rfl)
        · have h := h.2 c6
          refine lv_iload F.1 F.2.1 dX4_lots_165 (lv_at hl 3 rfl) ?_
          refine lv_aload_n F.1 F.2.1 dX4_lots_167 rfl (lv_at hl 0 rfl) ?_
          refine gv_get F hin4 hK hP 0 rfl rfl 1 (by decide) k757 rfl dX4_lots_168 ?_
          refine lv_iload F.1 F.2.1 dX4_lots_171 (lv_at hl 5 rfl) ?_
          refine gc_SR (As := [.ref (ad 2), .int (iI y6)]) F hK hA hP hS (cp_md_m hP) (c_X4_copiedOf l D cy (ad 2) mm y6 _ h) (cwS 2 F.2.2.2.2 (gG_S k969 k970 k67 k971) rfl rfl rfl hd_X4_copiedOf ⟨Nat.le_of_ble_eq_true rfl, Nat.le_of_ble_eq_true rfl⟩) dX4_lots_173 rfl rfl hl.1 (Nat.le_of_ble_eq_true rfl) ⟨Nat.le_of_ble_eq_true rfl, Nat.le_of_ble_eq_true rfl⟩ (fun u8 H locs h hP hS => ?_)
          refine gv_iadd F dX4_lots_176 ?_
          refine gv_name (fun v9 ev9 => ?_)
          have h := h v9 ev9
          refine lv_istore (lv' := [(4, .int (iI v9)), (0, .ref (ad 0)), (1, .int (iI y1)), (3, .int (iI y3)), (5, .int (iI y5)), (6, .int (iI y6))]) F.1 F.2.1 dX4_lots_177 hl (by decide) rfl (fun ls hl => ?_)
          obtain ⟨v10, ev10⟩ : ∃ z : Int, z = y6 + 1 := ⟨_, rfl⟩
          have h := h v10 ev10
          refine gv_iinc (lv' := [(6, .int (iI v10)), (4, .int (iI v9)), (0, .ref (ad 0)), (1, .int (iI y1)), (3, .int (iI y3)), (5, .int (iI y5))]) F dX4_lots_179 hl (k := 5) rfl ev10 (by decide) rfl (fun ls hl => ?_)
          refine lv_goto (tgt := 149) F.1 F.2.1 dX4_lots_182 (by decide) ?_
          exact ih y1 y3 v9 y5 v10 o mm re fa H locs ls h hP hD hS (lv_sub hl [2, 3, 4, 1, 5, 0] rfl)
  have L65 : ∀ (K52 : Int → Int → Int → Int → AR → AR → AR → AR → Prop) (hK52 : ∀ (y1 : Int) (y3 : Int) (y4 : Int) (y5 : Int) (o : AR) (mm : AR) (re : AR) (fa : AR) (H : Heap) (locs : List Loc) (ls : Array Slot), K52 y1 y3 y4 y5 o mm re fa → va_P D vwCl (wMd cy ad o ss mm im wa le ro re fa nu) H → va_D A (wMd cy ad o ss mm im wa le ro re fa nu) → va_S A s.heap H locs → lv_has ls 7 [(0, .ref (ad 0)), (1, .int (iI y1)), (3, .int (iI y3)), (4, .int (iI y4)), (5, .int (iI y5))] → W p l e rX4_lots s m args below meth c H locs 0 0 Qg (F0 m 52 ls [])) (n : Nat) (y1 : Int) (y3 : Int) (y4 : Int) (y5 : Int) (y6 : Int) (o : AR) (mm : AR) (re : AR) (fa : AR) (H : Heap) (locs : List Loc) (ls : Array Slot), wX4_lots_65 ss K52 Q n y1 y3 y4 y5 y6 o mm re fa → va_P D vwCl (wMd cy ad o ss mm im wa le ro re fa nu) H → va_D A (wMd cy ad o ss mm im wa le ro re fa nu) → va_S A s.heap H locs → lv_has ls 7 [(0, .ref (ad 0)), (1, .int (iI y1)), (3, .int (iI y3)), (4, .int (iI y4)), (5, .int (iI y5)), (6, .int (iI y6))] → W p l e rX4_lots s m args below meth c H locs 0 0 Qg (F0 m 65 ls []) := by
    intro K52 hK52 n
    induction n with
    | zero => intro _ _ _ _ _ _ _ _ _ _ _ _ h; exact h.elim
    | succ n ih =>
      intro y1 y3 y4 y5 y6 o mm re fa H locs ls h hP hD hS hl
      rw [wX4_lots_65_s] at h
      refine lv_iload F.1 F.2.1 dX4_lots_65 (lv_at hl 5 rfl) ?_
      refine lv_aload_n F.1 F.2.1 dX4_lots_67 rfl (lv_at hl 0 rfl) ?_
      refine gv_get F hin4 hK hP 0 rfl rfl 1 (by decide) k757 rfl dX4_lots_68 ?_
      refine gv_iconst F dX4_lots_71 ?_
      refine gv_iald (n := 147) (g := mm) F hK hP 2 rfl rfl (by decide) ⟨by decide, by decide⟩ dX4_lots_72 ?_
      obtain ⟨g11, h⟩ := h
      obtain ⟨g12, h⟩ := h
      refine gv_icmp_ge (tgt := 116) F g11 g12 dX4_lots_73 (by decide) (fun c13 => ?_) (fun c13 => ?_)
      · have h := h.1 c13
        refine lv_aload_n F.1 F.2.1 dX4_lots_116 rfl (lv_at hl 0 rfl) ?_
        refine lv_aload_n F.1 F.2.1 dX4_lots_117 rfl (lv_at hl 0 rfl) ?_
        refine gv_get F hin4 hK hP 0 rfl rfl 1 (by decide) k757 rfl dX4_lots_118 ?_
        refine gv_bipush F ⟨by decide, by decide⟩ dX4_lots_121 ?_
        refine gc_VV (As := [.ref (ad 2), .int (iI 30)]) (wn := fun u : AR × AR => wMd cy ad o ss u.2 im wa le ro re u.1 nu) F hK hA hP hD hS (cp_md_fm hP) (cd_md_fm hD) (fun u H1 hk h1 _ => cj_md_fm hP hD u.1 u.2 H1 hk h1) (c_X4_minutesOn l D cy ad (ad 2) o fa mm 30 _ h) (cwV 2 F.2.2.2.2 (gG_V k873 k875 k43 k67 k876) rfl rfl rfl hd_X4_minutesOn ⟨Nat.le_of_ble_eq_true rfl, Nat.le_of_ble_eq_true rfl⟩) rfl rfl dX4_lots_123 rfl rfl hl.1 (Nat.le_of_ble_eq_true rfl) ⟨Nat.le_of_ble_eq_true rfl, Nat.le_of_ble_eq_true rfl⟩ (fun u H locs h hP hD hS => ?_)
        obtain ⟨z14, z15⟩ := u
        try dsimp only at h hP hD
        refine lv_iload F.1 F.2.1 dX4_lots_126 (lv_at hl 3 rfl) ?_
        refine lv_iload_n F.1 F.2.1 dX4_lots_128 rfl (lv_at hl 2 rfl) ?_
        obtain ⟨g16, h⟩ := h
        refine gv_if_ne (tgt := 142) F g16 dX4_lots_129 (by decide) (fun c17 => ?_) (fun c17 => ?_)
        · have h := h.1 c17
          refine gv_iconst F dX4_lots_142 ?_
          refine gv_iadd F dX4_lots_143 ?_
          refine gv_name (fun v18 ev18 => ?_)
          have h := h v18 ev18
          refine lv_istore (lv' := [(4, .int (iI v18)), (0, .ref (ad 0)), (1, .int (iI y1)), (3, .int (iI y3)), (5, .int (iI y5)), (6, .int (iI y6))]) F.1 F.2.1 dX4_lots_144 hl (by decide) rfl (fun ls hl => ?_)
          refine gv_iconst F dX4_lots_146 ?_
          refine lv_istore (lv' := [(6, .int (iI 0)), (4, .int (iI v18)), (0, .ref (ad 0)), (1, .int (iI y1)), (3, .int (iI y3)), (5, .int (iI y5))]) F.1 F.2.1 dX4_lots_147 hl (by decide) rfl (fun ls hl => ?_)
          obtain ⟨n19, h⟩ := h
          exact L149 _ hK52 n19 y1 y3 v18 y5 0 o z15 re z14 H locs ls h hP hD hS (lv_sub hl [2, 3, 4, 1, 5, 0] rfl)
        · have h := h.2 c17
          refine lv_aload_n F.1 F.2.1 dX4_lots_132 rfl (lv_at hl 0 rfl) ?_
          refine gv_get F hin4 hK hP 0 rfl rfl 1 (by decide) k757 rfl dX4_lots_133 ?_
          refine gc_SR (As := [.ref (ad 2)]) F hK hA hP hS (cp_md_m hP) (c_X4_rightAll l D cy (ad 2) z15 _ h) (cwS 1 F.2.2.2.2 (gG_S k949 k950 k67 k951) rfl rfl rfl hd_X4_rightAll ⟨Nat.le_of_ble_eq_true rfl, Nat.le_of_ble_eq_true rfl⟩) dX4_lots_136 rfl rfl hl.1 (Nat.le_of_ble_eq_true rfl) ⟨Nat.le_of_ble_eq_true rfl, Nat.le_of_ble_eq_true rfl⟩ (fun u20 H locs h hP hS => ?_)
          refine lv_goto (tgt := 143) F.1 F.2.1 dX4_lots_139 (by decide) ?_
          refine gv_iadd F dX4_lots_143 ?_
          refine gv_name (fun v21 ev21 => ?_)
          have h := h v21 ev21
          refine lv_istore (lv' := [(4, .int (iI v21)), (0, .ref (ad 0)), (1, .int (iI y1)), (3, .int (iI y3)), (5, .int (iI y5)), (6, .int (iI y6))]) F.1 F.2.1 dX4_lots_144 hl (by decide) rfl (fun ls hl => ?_)
          refine gv_iconst F dX4_lots_146 ?_
          refine lv_istore (lv' := [(6, .int (iI 0)), (4, .int (iI v21)), (0, .ref (ad 0)), (1, .int (iI y1)), (3, .int (iI y3)), (5, .int (iI y5))]) F.1 F.2.1 dX4_lots_147 hl (by decide) rfl (fun ls hl => ?_)
          obtain ⟨n22, h⟩ := h
          exact L149 _ hK52 n22 y1 y3 v21 y5 0 o z15 re z14 H locs ls h hP hD hS (lv_sub hl [2, 3, 4, 1, 5, 0] rfl)
      · have h := h.2 c13
        refine lv_aload_n F.1 F.2.1 dX4_lots_76 rfl (lv_at hl 0 rfl) ?_
        refine gv_get F hin4 hK hP 0 rfl rfl 1 (by decide) k757 rfl dX4_lots_77 ?_
        refine lv_iload F.1 F.2.1 dX4_lots_80 (lv_at hl 5 rfl) ?_
        refine gv_iconst F dX4_lots_82 ?_
        refine gc_SR (As := [.int (iI y6), .int (iI 3)]) F hK hA hP hS gPnil (c_X4_of l D cy y6 3 _ h) (cwS 2 F.2.2.2.2 (gG_S k862 k863 k67 k864) rfl rfl rfl hd_X4_of ⟨Nat.le_of_ble_eq_true rfl, Nat.le_of_ble_eq_true rfl⟩) dX4_lots_83 rfl rfl hl.1 (Nat.le_of_ble_eq_true rfl) ⟨Nat.le_of_ble_eq_true rfl, Nat.le_of_ble_eq_true rfl⟩ (fun u23 H locs h hP hS => ?_)
        refine lv_aload_n F.1 F.2.1 dX4_lots_86 rfl (lv_at hl 0 rfl) ?_
        refine gv_bipush F ⟨by decide, by decide⟩ dX4_lots_87 ?_
        refine gc_VI (As := [.int (iI 7)]) (wn := fun u : AR => wMd cy ad u ss mm im wa le ro re fa nu) F hK hA hP hD hS hP hD (fun u H1 _ h1 h2 => ⟨h1, h2⟩) (c_X4_drawn l D cy ad o ss mm im wa le ro re fa nu 7 _ h) (cwV 1 F.2.2.2.2 (gG_V k1093 k1095 k59 k67 k1096) rfl rfl rfl hd_X4_drawn ⟨Nat.le_of_ble_eq_true rfl, Nat.le_of_ble_eq_true rfl⟩) rfl rfl dX4_lots_89 rfl rfl hl.1 (Nat.le_of_ble_eq_true rfl) ⟨Nat.le_of_ble_eq_true rfl, Nat.le_of_ble_eq_true rfl⟩ (fun u25 z24 H locs h hP hD hS => ?_)
        try dsimp only at h hP hD
        obtain ⟨g26, h⟩ := h
        obtain ⟨z27, ez27⟩ : ∃ z : AR, z = su mm u23 u25 := ⟨_, rfl⟩
        have h := h z27 ez27
        refine gv_iast (n := 147) (g := mm) (ws' := wMd cy ad z24 ss z27 im wa le ro re fa nu) F hK hP hD hS 2 rfl rfl (by decide) g26 (by subst ez27; exact rfl) dX4_lots_92 (fun H locs hP hD hS => ?_)
        refine lv_aload_n F.1 F.2.1 dX4_lots_93 rfl (lv_at hl 0 rfl) ?_
        refine gv_get F hin4 hK hP 0 rfl rfl 1 (by decide) k757 rfl dX4_lots_94 ?_
        refine lv_iload F.1 F.2.1 dX4_lots_97 (lv_at hl 5 rfl) ?_
        refine gv_iconst F dX4_lots_99 ?_
        refine gc_SR (As := [.int (iI y6), .int (iI 2)]) F hK hA hP hS gPnil (c_X4_of l D cy y6 2 _ h) (cwS 2 F.2.2.2.2 (gG_S k862 k863 k67 k864) rfl rfl rfl hd_X4_of ⟨Nat.le_of_ble_eq_true rfl, Nat.le_of_ble_eq_true rfl⟩) dX4_lots_100 rfl rfl hl.1 (Nat.le_of_ble_eq_true rfl) ⟨Nat.le_of_ble_eq_true rfl, Nat.le_of_ble_eq_true rfl⟩ (fun u28 H locs h hP hS => ?_)
        refine lv_aload_n F.1 F.2.1 dX4_lots_103 rfl (lv_at hl 0 rfl) ?_
        refine gv_bipush F ⟨by decide, by decide⟩ dX4_lots_104 ?_
        refine gc_VI (As := [.int (iI 8)]) (wn := fun u : AR => wMd cy ad u ss z27 im wa le ro re fa nu) F hK hA hP hD hS hP hD (fun u H1 _ h1 h2 => ⟨h1, h2⟩) (c_X4_drawn l D cy ad z24 ss z27 im wa le ro re fa nu 8 _ h) (cwV 1 F.2.2.2.2 (gG_V k1093 k1095 k59 k67 k1096) rfl rfl rfl hd_X4_drawn ⟨Nat.le_of_ble_eq_true rfl, Nat.le_of_ble_eq_true rfl⟩) rfl rfl dX4_lots_106 rfl rfl hl.1 (Nat.le_of_ble_eq_true rfl) ⟨Nat.le_of_ble_eq_true rfl, Nat.le_of_ble_eq_true rfl⟩ (fun u30 z29 H locs h hP hD hS => ?_)
        try dsimp only at h hP hD
        obtain ⟨g31, h⟩ := h
        obtain ⟨z32, ez32⟩ : ∃ z : AR, z = su z27 u28 u30 := ⟨_, rfl⟩
        have h := h z32 ez32
        refine gv_iast (n := 147) (g := z27) (ws' := wMd cy ad z29 ss z32 im wa le ro re fa nu) F hK hP hD hS 2 rfl rfl (by decide) g31 (by subst ez32; exact rfl) dX4_lots_109 (fun H locs hP hD hS => ?_)
        obtain ⟨v33, ev33⟩ : ∃ z : Int, z = y6 + 1 := ⟨_, rfl⟩
        have h := h v33 ev33
        refine gv_iinc (lv' := [(6, .int (iI v33)), (0, .ref (ad 0)), (1, .int (iI y1)), (3, .int (iI y3)), (4, .int (iI y4)), (5, .int (iI y5))]) F dX4_lots_110 hl (k := 5) rfl ev33 (by decide) rfl (fun ls hl => ?_)
        refine lv_goto (tgt := 65) F.1 F.2.1 dX4_lots_113 (by decide) ?_
        exact ih y1 y3 y4 y5 v33 z29 z32 re fa H locs ls h hP hD hS (lv_sub hl [1, 2, 3, 4, 5, 0] rfl)
  have L52 : ∀ (n : Nat) (y1 : Int) (y3 : Int) (y4 : Int) (y5 : Int) (o : AR) (mm : AR) (re : AR) (fa : AR) (H : Heap) (locs : List Loc) (ls : Array Slot), wX4_lots_52 ss Q n y1 y3 y4 y5 o mm re fa → va_P D vwCl (wMd cy ad o ss mm im wa le ro re fa nu) H → va_D A (wMd cy ad o ss mm im wa le ro re fa nu) → va_S A s.heap H locs → lv_has ls 7 [(0, .ref (ad 0)), (1, .int (iI y1)), (3, .int (iI y3)), (4, .int (iI y4)), (5, .int (iI y5))] → W p l e rX4_lots s m args below meth c H locs 0 0 Qg (F0 m 52 ls []) := by
    intro  n
    induction n with
    | zero => intro _ _ _ _ _ _ _ _ _ _ _ h; exact h.elim
    | succ n ih =>
      intro y1 y3 y4 y5 o mm re fa H locs ls h hP hD hS hl
      rw [wX4_lots_52_s] at h
      refine lv_iload F.1 F.2.1 dX4_lots_52 (lv_at hl 4 rfl) ?_
      refine lv_iload_n F.1 F.2.1 dX4_lots_54 rfl (lv_at hl 1 rfl) ?_
      obtain ⟨g34, h⟩ := h
      obtain ⟨g35, h⟩ := h
      refine gv_icmp_ge (tgt := 191) F g34 g35 dX4_lots_55 (by decide) (fun c36 => ?_) (fun c36 => ?_)
      · have h := h.1 c36
        refine lv_iload F.1 F.2.1 dX4_lots_191 (lv_at hl 3 rfl) ?_
        exact ret y4 (o, mm, re, fa) H locs 193 ls h rfl hP hD hS dX4_lots_193
      · have h := h.2 c36
        refine lv_aload_n F.1 F.2.1 dX4_lots_58 rfl (lv_at hl 0 rfl) ?_
        refine gc_VV (As := []) (wn := fun u : AR => wMd cy ad o ss u im wa le ro re fa nu) F hK hA hP hD hS hP hD (fun u H1 _ h1 h2 => ⟨h1, h2⟩) (c_X4_begins l D cy ad o ss mm im wa le ro re fa nu _ h) (cwV 0 F.2.2.2.2 (gG_V k962 k964 k49 k67 k965) rfl rfl rfl hd_X4_begins ⟨Nat.le_of_ble_eq_true rfl, Nat.le_of_ble_eq_true rfl⟩) rfl rfl dX4_lots_59 rfl rfl hl.1 (Nat.le_of_ble_eq_true rfl) ⟨Nat.le_of_ble_eq_true rfl, Nat.le_of_ble_eq_true rfl⟩ (fun z37 H locs h hP hD hS => ?_)
        try dsimp only at h hP hD
        refine gv_iconst F dX4_lots_62 ?_
        refine lv_istore (lv' := [(6, .int (iI 0)), (0, .ref (ad 0)), (1, .int (iI y1)), (3, .int (iI y3)), (4, .int (iI y4)), (5, .int (iI y5))]) F.1 F.2.1 dX4_lots_63 hl (by decide) rfl (fun ls hl => ?_)
        obtain ⟨n38, h⟩ := h
        exact L65 _ ih n38 y1 y3 y4 y5 0 o z37 re fa H locs ls h hP hD hS (lv_sub hl [1, 2, 3, 4, 5, 0] rfl)
  refine lv_iload_n F.1 F.2.1 dX4_lots_0 rfl (lv_at hl 1 rfl) ?_
  refine gv_iconst F dX4_lots_1 ?_
  obtain ⟨g39, h⟩ := h
  refine gv_icmp_ge (tgt := 12) F g39 ⟨by decide, by decide⟩ dX4_lots_2 (by decide) (fun c40 => ?_) (fun c40 => ?_)
  · have h := h.1 c40
    refine lv_iload_n F.1 F.2.1 dX4_lots_12 rfl (lv_at hl 1 rfl) ?_
    refine gv_bipush F ⟨by decide, by decide⟩ dX4_lots_13 ?_
    refine gv_icmp_le (tgt := 25) F g39 ⟨by decide, by decide⟩ dX4_lots_15 (by decide) (fun c41 => ?_) (fun c41 => ?_)
    · have h := h.1 c41
      refine lv_iload_n F.1 F.2.1 dX4_lots_25 rfl (lv_at hl 3 rfl) ?_
      refine gv_iconst F dX4_lots_26 ?_
      refine gv_iconst F dX4_lots_27 ?_
      refine gc_SR (As := [.int (iI x3), .int (iI 0), .int (iI 1)]) F hK hA hP hS gPnil (c_X4_isIn l D cy x3 0 1 _ h) (cwS 3 F.2.2.2.2 (gG_S k832 k833 k67 k834) rfl rfl rfl hd_X4_isIn ⟨Nat.le_of_ble_eq_true rfl, Nat.le_of_ble_eq_true rfl⟩) dX4_lots_28 rfl rfl hl.1 (Nat.le_of_ble_eq_true rfl) ⟨Nat.le_of_ble_eq_true rfl, Nat.le_of_ble_eq_true rfl⟩ (fun u42 H locs h hP hS => ?_)
      obtain ⟨bu42, h⟩ := h
      refine gv_if_ne (tgt := 41) F (gRb bu42) dX4_lots_31 (by decide) (fun c43 => ?_) (fun c43 => ?_)
      · have h := h.1 c43
        refine lv_aload_n F.1 F.2.1 dX4_lots_41 rfl (lv_at hl 0 rfl) ?_
        refine lv_iload_n F.1 F.2.1 dX4_lots_42 rfl (lv_at hl 2 rfl) ?_
        obtain ⟨z44, ez44⟩ : ∃ z : AR, z = su o 16 x2 := ⟨_, rfl⟩
        have h := h z44 ez44
        refine gv_put (ws' := wMd cy ad z44 ss mm im wa le ro re fa nu) F hin4 tyX4 tyX4_ok nmX4 hK hP hD hS 0 rfl rfl 16 (by decide) k772 rfl (ty := .int) (by decide +kernel) rfl rfl (Nat.le_of_ble_eq_true rfl) (by subst ez44; exact wMd_o16 rfl) dX4_lots_43 (fun H locs hP hD hS => ?_)
        refine gv_iconst F dX4_lots_46 ?_
        refine lv_istore (lv' := [(4, .int (iI 0)), (0, .ref (ad 0)), (1, .int (iI x1)), (2, .int (iI x2)), (3, .int (iI x3))]) F.1 F.2.1 dX4_lots_47 hl (by decide) rfl (fun ls hl => ?_)
        refine gv_iconst F dX4_lots_49 ?_
        refine lv_istore (lv' := [(5, .int (iI 0)), (4, .int (iI 0)), (0, .ref (ad 0)), (1, .int (iI x1)), (2, .int (iI x2)), (3, .int (iI x3))]) F.1 F.2.1 dX4_lots_50 hl (by decide) rfl (fun ls hl => ?_)
        obtain ⟨n45, h⟩ := h
        exact L52 n45 x1 x3 0 0 z44 mm re fa H locs ls h hP hD hS (lv_sub hl [2, 3, 5, 1, 0] rfl)
      · have h := h.2 c43
        refine lv_aload_n F.1 F.2.1 dX4_lots_34 rfl (lv_at hl 0 rfl) ?_
        refine gv_bipush F ⟨by decide, by decide⟩ dX4_lots_35 ?_
        refine gc_VI (As := [.int (iI (-2))]) (wn := fun u : AR => wMd cy ad o ss mm im wa le ro u fa nu) F hK hA hP hD hS hP hD (fun u H1 _ h1 h2 => ⟨h1, h2⟩) (c_X4_no l D cy ad o ss mm im wa le ro re fa nu (-2) _ h) (cwV 1 F.2.2.2.2 (gG_V k812 k814 k34 k67 k815) rfl rfl rfl hd_X4_no ⟨Nat.le_of_ble_eq_true rfl, Nat.le_of_ble_eq_true rfl⟩) rfl rfl dX4_lots_37 rfl rfl hl.1 (Nat.le_of_ble_eq_true rfl) ⟨Nat.le_of_ble_eq_true rfl, Nat.le_of_ble_eq_true rfl⟩ (fun u47 z46 H locs h hP hD hS => ?_)
        try dsimp only at h hP hD
        exact ret u47 (o, mm, z46, fa) H locs 40 ls h rfl hP hD hS dX4_lots_40
    · have h := h.2 c41
      refine lv_aload_n F.1 F.2.1 dX4_lots_18 rfl (lv_at hl 0 rfl) ?_
      refine gv_bipush F ⟨by decide, by decide⟩ dX4_lots_19 ?_
      refine gc_VI (As := [.int (iI (-6))]) (wn := fun u : AR => wMd cy ad o ss mm im wa le ro u fa nu) F hK hA hP hD hS hP hD (fun u H1 _ h1 h2 => ⟨h1, h2⟩) (c_X4_no l D cy ad o ss mm im wa le ro re fa nu (-6) _ h) (cwV 1 F.2.2.2.2 (gG_V k812 k814 k34 k67 k815) rfl rfl rfl hd_X4_no ⟨Nat.le_of_ble_eq_true rfl, Nat.le_of_ble_eq_true rfl⟩) rfl rfl dX4_lots_21 rfl rfl hl.1 (Nat.le_of_ble_eq_true rfl) ⟨Nat.le_of_ble_eq_true rfl, Nat.le_of_ble_eq_true rfl⟩ (fun u49 z48 H locs h hP hD hS => ?_)
      try dsimp only at h hP hD
      exact ret u49 (o, mm, z48, fa) H locs 24 ls h rfl hP hD hS dX4_lots_24
  · have h := h.2 c40
    refine lv_aload_n F.1 F.2.1 dX4_lots_5 rfl (lv_at hl 0 rfl) ?_
    refine gv_bipush F ⟨by decide, by decide⟩ dX4_lots_6 ?_
    refine gc_VI (As := [.int (iI (-4))]) (wn := fun u : AR => wMd cy ad o ss mm im wa le ro u fa nu) F hK hA hP hD hS hP hD (fun u H1 _ h1 h2 => ⟨h1, h2⟩) (c_X4_no l D cy ad o ss mm im wa le ro re fa nu (-4) _ h) (cwV 1 F.2.2.2.2 (gG_V k812 k814 k34 k67 k815) rfl rfl rfl hd_X4_no ⟨Nat.le_of_ble_eq_true rfl, Nat.le_of_ble_eq_true rfl⟩) rfl rfl dX4_lots_8 rfl rfl hl.1 (Nat.le_of_ble_eq_true rfl) ⟨Nat.le_of_ble_eq_true rfl, Nat.le_of_ble_eq_true rfl⟩ (fun u51 z50 H locs h hP hD hS => ?_)
    try dsimp only at h hP hD
    exact ret u51 (o, mm, z50, fa) H locs 11 ls h rfl hP hD hS dX4_lots_11
abbrev rX4_image : Room := { frames := 1, cells := 0, slots := 0, locals := 22 }
set_option maxHeartbeats 4000000 in
set_option maxRecDepth 20000 in
theorem c_X4_image (l : Launch) (D : va_G) (cy : ClassId) (ad : Nat → Nat) (o : AR) (ss : AR) (mm : AR) (im : AR) (wa : AR) (le : AR) (ro : AR) (re : AR) (fa : AR) (nu : AR) (Q : Int → AR → AR → Prop) (h : wX4_image o ss im Q) : MetI l yX4_image (wT yX4_image cX4_image 1 (some .int)) rX4_image D cy [.ref (ad 0)] (wMd cy ad o ss mm im wa le ro re fa nu) (fun u : AR × AR => wMd cy ad u.1 ss mm u.2 wa le ro re fa nu) (fun r u => Q r u.1 u.2) := by
  refine gI_I (by decide) (Nat.le_of_ble_eq_true rfl) ?_
  intro p e s m args below meth c A Qg F hK hA ret H locs ls hl hP hD hS
  have F : CallFix p m c cX4_image 1 s args gT RX4 := F
  have hl : lv_has ls 1 [(0, .ref (ad 0))] := hl
  refine lv_aload_n F.1 F.2.1 dX4_image_0 rfl (lv_at hl 0 rfl) ?_
  refine gv_get F hin4 hK hP 0 rfl rfl 0 (by decide) k756 rfl dX4_image_1 ?_
  refine lv_aload_n F.1 F.2.1 dX4_image_4 rfl (lv_at hl 0 rfl) ?_
  refine gv_get F hin4 hK hP 0 rfl rfl 2 (by decide) k758 rfl dX4_image_5 ?_
  refine gc_SV (As := [.ref (ad 1), .ref (ad 3)]) (wn := fun u : AR => wMd cy ad o ss mm u wa le ro re fa nu) F hK hA hP hD hS (cp_md_s_im hP) (cd_md_s_im hD) (fun u H1 hk h1 _ => cj_md_s_im hP hD u H1 hk h1) (c_X4_lays l D cy (ad 1) (ad 3) ss im _ h) (cwS 2 F.2.2.2.2 (gG_S k842 k843 k67 k844) rfl rfl rfl hd_X4_lays ⟨Nat.le_of_ble_eq_true rfl, Nat.le_of_ble_eq_true rfl⟩) dX4_image_8 rfl rfl hl.1 (Nat.le_of_ble_eq_true rfl) ⟨Nat.le_of_ble_eq_true rfl, Nat.le_of_ble_eq_true rfl⟩ (fun z1 H locs h hP hD hS => ?_)
  try dsimp only at h hP hD
  refine lv_aload_n F.1 F.2.1 dX4_image_11 rfl (lv_at hl 0 rfl) ?_
  refine gv_iconst F dX4_image_12 ?_
  obtain ⟨z2, ez2⟩ : ∃ z : AR, z = su o 4 1 := ⟨_, rfl⟩
  have h := h z2 ez2
  refine gv_put (ws' := wMd cy ad z2 ss mm z1 wa le ro re fa nu) F hin4 tyX4 tyX4_ok nmX4 hK hP hD hS 0 rfl rfl 4 (by decide) k760 rfl (ty := .boolean) (by decide +kernel) rfl rfl (Nat.le_of_ble_eq_true rfl) (by subst ez2; exact wMd_o4 rfl) dX4_image_13 (fun H locs hP hD hS => ?_)
  refine lv_aload_n F.1 F.2.1 dX4_image_16 rfl (lv_at hl 0 rfl) ?_
  refine gv_get F hin4 hK hP 0 rfl rfl 0 (by decide) k756 rfl dX4_image_17 ?_
  refine gv_iconst F dX4_image_20 ?_
  refine gv_iald (n := 147) (g := ss) F hK hP 1 rfl rfl (by decide) ⟨by decide, by decide⟩ dX4_image_21 ?_
  exact ret (ss 2) (z2, z1) H locs 22 ls h rfl hP hD hS dX4_image_22
abbrev rX4_on : Room := { frames := 1, cells := 0, slots := 0, locals := 22 }
set_option maxHeartbeats 4000000 in
set_option maxRecDepth 20000 in
theorem c_X4_on (l : Launch) (D : va_G) (cy : ClassId) (ad : Nat → Nat) (o : AR) (ss : AR) (mm : AR) (im : AR) (wa : AR) (le : AR) (ro : AR) (re : AR) (fa : AR) (nu : AR) (Q : Int → AR → AR → Prop) (h : wX4_on o ss im re Q) : MetI l yX4_on (wT yX4_on cX4_on 1 (some .int)) rX4_on D cy [.ref (ad 0)] (wMd cy ad o ss mm im wa le ro re fa nu) (fun u : AR × AR => wMd cy ad o u.1 mm im wa le ro u.2 fa nu) (fun r u => Q r u.1 u.2) := by
  refine gI_I (by decide) (Nat.le_of_ble_eq_true rfl) ?_
  intro p e s m args below meth c A Qg F hK hA ret H locs ls hl hP hD hS
  have F : CallFix p m c cX4_on 1 s args gT RX4 := F
  have hl : lv_has ls 1 [(0, .ref (ad 0))] := hl
  refine lv_aload_n F.1 F.2.1 dX4_on_0 rfl (lv_at hl 0 rfl) ?_
  refine gv_get F hin4 hK hP 0 rfl rfl 4 (by decide) k760 rfl dX4_on_1 ?_
  obtain ⟨g1, h⟩ := h
  refine gv_if_ne (tgt := 14) F g1 dX4_on_4 (by decide) (fun c2 => ?_) (fun c2 => ?_)
  · have h := h.1 c2
    refine lv_aload_n F.1 F.2.1 dX4_on_14 rfl (lv_at hl 0 rfl) ?_
    refine gv_get F hin4 hK hP 0 rfl rfl 2 (by decide) k758 rfl dX4_on_15 ?_
    refine lv_aload_n F.1 F.2.1 dX4_on_18 rfl (lv_at hl 0 rfl) ?_
    refine gv_get F hin4 hK hP 0 rfl rfl 0 (by decide) k756 rfl dX4_on_19 ?_
    refine gc_SV (As := [.ref (ad 3), .ref (ad 1)]) (wn := fun u : AR => wMd cy ad o u mm im wa le ro re fa nu) F hK hA hP hD hS (cp_md_im_s hP) (cd_md_im_s hD) (fun u H1 hk h1 _ => cj_md_im_s hP hD u H1 hk h1) (c_X4_lays l D cy (ad 3) (ad 1) im ss _ h) (cwS 2 F.2.2.2.2 (gG_S k842 k843 k67 k844) rfl rfl rfl hd_X4_lays ⟨Nat.le_of_ble_eq_true rfl, Nat.le_of_ble_eq_true rfl⟩) dX4_on_22 rfl rfl hl.1 (Nat.le_of_ble_eq_true rfl) ⟨Nat.le_of_ble_eq_true rfl, Nat.le_of_ble_eq_true rfl⟩ (fun z3 H locs h hP hD hS => ?_)
    try dsimp only at h hP hD
    refine lv_aload_n F.1 F.2.1 dX4_on_25 rfl (lv_at hl 0 rfl) ?_
    refine gv_get F hin4 hK hP 0 rfl rfl 0 (by decide) k756 rfl dX4_on_26 ?_
    refine gv_iconst F dX4_on_29 ?_
    refine gv_iald (n := 147) (g := z3) F hK hP 1 rfl rfl (by decide) ⟨by decide, by decide⟩ dX4_on_30 ?_
    exact ret (z3 2) (z3, re) H locs 31 ls h rfl hP hD hS dX4_on_31
  · have h := h.2 c2
    refine lv_aload_n F.1 F.2.1 dX4_on_7 rfl (lv_at hl 0 rfl) ?_
    refine gv_bipush F ⟨by decide, by decide⟩ dX4_on_8 ?_
    refine gc_VI (As := [.int (iI (-3))]) (wn := fun u : AR => wMd cy ad o ss mm im wa le ro u fa nu) F hK hA hP hD hS hP hD (fun u H1 _ h1 h2 => ⟨h1, h2⟩) (c_X4_no l D cy ad o ss mm im wa le ro re fa nu (-3) _ h) (cwV 1 F.2.2.2.2 (gG_V k812 k814 k34 k67 k815) rfl rfl rfl hd_X4_no ⟨Nat.le_of_ble_eq_true rfl, Nat.le_of_ble_eq_true rfl⟩) rfl rfl dX4_on_10 rfl rfl hl.1 (Nat.le_of_ble_eq_true rfl) ⟨Nat.le_of_ble_eq_true rfl, Nat.le_of_ble_eq_true rfl⟩ (fun u5 z4 H locs h hP hD hS => ?_)
    try dsimp only at h hP hD
    exact ret u5 (ss, z4) H locs 13 ls h rfl hP hD hS dX4_on_13
abbrev rX4_count : Room := { frames := 3, cells := 0, slots := 0, locals := 66 }
set_option maxHeartbeats 4000000 in
set_option maxRecDepth 20000 in
theorem c_X4_count (l : Launch) (D : va_G) (cy : ClassId) (ad : Nat → Nat) (o : AR) (ss : AR) (mm : AR) (im : AR) (wa : AR) (le : AR) (ro : AR) (re : AR) (fa : AR) (nu : AR) (x1 : Int) (Q : Int → Prop) (h : wX4_count o ss re x1 Q) : MetR l yX4_count (wT yX4_count cX4_count 5 (some .int)) rX4_count D cy [.ref (ad 0), .int (iI x1)] (wMd cy ad o ss mm im wa le ro re fa nu) Q := by
  refine gI_R (by decide) (Nat.le_of_ble_eq_true rfl) ?_
  intro p e s m args below meth c A Qg F hK hA ret H locs ls hl hP hS
  have F : CallFix p m c cX4_count 5 s args gT RX4 := F
  have hl : lv_has ls 5 [(0, .ref (ad 0)), (1, .int (iI x1))] := hl
  have L145 : ∀ (n : Nat) (y2 : Int) (y3 : Int) (H : Heap) (locs : List Loc) (ls : Array Slot), wX4_count_145 o ss re Q n y2 y3 → va_P D vwCl (wMd cy ad o ss mm im wa le ro re fa nu) H → va_S A s.heap H locs → lv_has ls 5 [(0, .ref (ad 0)), (2, .int (iI y2)), (3, .int (iI y3))] → W p l e rX4_count s m args below meth c H locs 0 0 Qg (F0 m 145 ls []) := by
    intro  n
    induction n with
    | zero => intro _ _ _ _ _ h; exact h.elim
    | succ n ih =>
      intro y2 y3 H locs ls h hP hS hl
      rw [wX4_count_145_s] at h
      refine lv_iload_n F.1 F.2.1 dX4_count_145 rfl (lv_at hl 2 rfl) ?_
      refine lv_aload_n F.1 F.2.1 dX4_count_146 rfl (lv_at hl 0 rfl) ?_
      refine gv_get F hin4 hK hP 0 rfl rfl 0 (by decide) k756 rfl dX4_count_147 ?_
      refine gv_iconst F dX4_count_150 ?_
      refine gv_iald (n := 147) (g := ss) F hK hP 1 rfl rfl (by decide) ⟨by decide, by decide⟩ dX4_count_151 ?_
      obtain ⟨g1, h⟩ := h
      obtain ⟨g2, h⟩ := h
      refine gv_icmp_ge (tgt := 172) F g1 g2 dX4_count_152 (by decide) (fun c3 => ?_) (fun c3 => ?_)
      · have h := h.1 c3
        refine lv_iload_n F.1 F.2.1 dX4_count_172 rfl (lv_at hl 1 rfl) ?_
        exact ret y2 H locs 173 ls h rfl hS dX4_count_173
      · have h := h.2 c3
        refine lv_iload_n F.1 F.2.1 dX4_count_155 rfl (lv_at hl 1 rfl) ?_
        refine lv_aload_n F.1 F.2.1 dX4_count_156 rfl (lv_at hl 0 rfl) ?_
        refine gv_get F hin4 hK hP 0 rfl rfl 0 (by decide) k756 rfl dX4_count_157 ?_
        refine lv_iload_n F.1 F.2.1 dX4_count_160 rfl (lv_at hl 2 rfl) ?_
        refine gc_SR (As := [.ref (ad 1), .int (iI y3)]) F hK hA hP hS (cp_md_s hP) (c_X4_answersOf l D cy (ad 1) ss y3 _ h) (cwS 2 F.2.2.2.2 (gG_S k966 k967 k67 k968) rfl rfl rfl hd_X4_answersOf ⟨Nat.le_of_ble_eq_true rfl, Nat.le_of_ble_eq_true rfl⟩) dX4_count_161 rfl rfl hl.1 (Nat.le_of_ble_eq_true rfl) ⟨Nat.le_of_ble_eq_true rfl, Nat.le_of_ble_eq_true rfl⟩ (fun u4 H locs h hP hS => ?_)
        refine gv_iadd F dX4_count_164 ?_
        refine gv_name (fun v5 ev5 => ?_)
        have h := h v5 ev5
        refine lv_istore_n (lv' := [(2, .int (iI v5)), (0, .ref (ad 0)), (3, .int (iI y3))]) F.1 F.2.1 dX4_count_165 rfl hl (by decide) rfl (fun ls hl => ?_)
        obtain ⟨v6, ev6⟩ : ∃ z : Int, z = y3 + 1 := ⟨_, rfl⟩
        have h := h v6 ev6
        refine gv_iinc (lv' := [(3, .int (iI v6)), (2, .int (iI v5)), (0, .ref (ad 0))]) F dX4_count_166 hl (k := 2) rfl ev6 (by decide) rfl (fun ls hl => ?_)
        refine lv_goto (tgt := 145) F.1 F.2.1 dX4_count_169 (by decide) ?_
        exact ih v5 v6 H locs ls h hP hS (lv_sub hl [2, 1, 0] rfl)
  have L99 : ∀ (K88 : Int → Int → Prop) (hK88 : ∀ (y2 : Int) (y3 : Int) (H : Heap) (locs : List Loc) (ls : Array Slot), K88 y2 y3 → va_P D vwCl (wMd cy ad o ss mm im wa le ro re fa nu) H → va_S A s.heap H locs → lv_has ls 5 [(0, .ref (ad 0)), (2, .int (iI y2)), (3, .int (iI y3))] → W p l e rX4_count s m args below meth c H locs 0 0 Qg (F0 m 88 ls [])) (n : Nat) (y2 : Int) (y3 : Int) (y4 : Int) (H : Heap) (locs : List Loc) (ls : Array Slot), wX4_count_99 o ss re K88 Q n y2 y3 y4 → va_P D vwCl (wMd cy ad o ss mm im wa le ro re fa nu) H → va_S A s.heap H locs → lv_has ls 5 [(0, .ref (ad 0)), (2, .int (iI y2)), (3, .int (iI y3)), (4, .int (iI y4))] → W p l e rX4_count s m args below meth c H locs 0 0 Qg (F0 m 99 ls []) := by
    intro K88 hK88 n
    induction n with
    | zero => intro _ _ _ _ _ _ h; exact h.elim
    | succ n ih =>
      intro y2 y3 y4 H locs ls h hP hS hl
      rw [wX4_count_99_s] at h
      refine lv_iload F.1 F.2.1 dX4_count_99 (lv_at hl 3 rfl) ?_
      refine gv_bipush F ⟨by decide, by decide⟩ dX4_count_101 ?_
      obtain ⟨g7, h⟩ := h
      refine gv_icmp_ge (tgt := 128) F g7 ⟨by decide, by decide⟩ dX4_count_103 (by decide) (fun c8 => ?_) (fun c8 => ?_)
      · have h := h.1 c8
        obtain ⟨v9, ev9⟩ : ∃ z : Int, z = y3 + 1 := ⟨_, rfl⟩
        have h := h v9 ev9
        refine gv_iinc (lv' := [(3, .int (iI v9)), (0, .ref (ad 0)), (2, .int (iI y2)), (4, .int (iI y4))]) F dX4_count_128 hl (k := 2) rfl ev9 (by decide) rfl (fun ls hl => ?_)
        refine lv_goto (tgt := 88) F.1 F.2.1 dX4_count_131 (by decide) ?_
        exact hK88 y2 v9 H locs ls h hP hS (lv_sub hl [1, 2, 0] rfl)
      · have h := h.2 c8
        refine lv_iload_n F.1 F.2.1 dX4_count_106 rfl (lv_at hl 1 rfl) ?_
        refine lv_aload_n F.1 F.2.1 dX4_count_107 rfl (lv_at hl 0 rfl) ?_
        refine gv_get F hin4 hK hP 0 rfl rfl 0 (by decide) k756 rfl dX4_count_108 ?_
        refine gv_iconst F dX4_count_111 ?_
        refine lv_iload_n F.1 F.2.1 dX4_count_112 rfl (lv_at hl 2 rfl) ?_
        refine gv_iadd F dX4_count_113 ?_
        obtain ⟨g10, h⟩ := h
        refine gv_iald (n := 147) (g := ss) F hK hP 1 rfl rfl (by decide) g10 dX4_count_114 ?_
        refine lv_iload F.1 F.2.1 dX4_count_115 (lv_at hl 3 rfl) ?_
        obtain ⟨g11, h⟩ := h
        obtain ⟨g12, h⟩ := h
        refine gv_ishr F g11 g12 dX4_count_117 ?_
        refine gv_iconst F dX4_count_118 ?_
        refine gv_iand F 1 (by decide) (by decide) dX4_count_119 ?_
        refine gv_iadd F dX4_count_120 ?_
        refine gv_name (fun v13 ev13 => ?_)
        have h := h v13 ev13
        refine lv_istore_n (lv' := [(2, .int (iI v13)), (0, .ref (ad 0)), (3, .int (iI y3)), (4, .int (iI y4))]) F.1 F.2.1 dX4_count_121 rfl hl (by decide) rfl (fun ls hl => ?_)
        obtain ⟨v14, ev14⟩ : ∃ z : Int, z = y4 + 1 := ⟨_, rfl⟩
        have h := h v14 ev14
        refine gv_iinc (lv' := [(4, .int (iI v14)), (2, .int (iI v13)), (0, .ref (ad 0)), (3, .int (iI y3))]) F dX4_count_122 hl (k := 3) rfl ev14 (by decide) rfl (fun ls hl => ?_)
        refine lv_goto (tgt := 99) F.1 F.2.1 dX4_count_125 (by decide) ?_
        exact ih v13 y3 v14 H locs ls h hP hS (lv_sub hl [2, 1, 3, 0] rfl)
  have L88 : ∀ (n : Nat) (y2 : Int) (y3 : Int) (H : Heap) (locs : List Loc) (ls : Array Slot), wX4_count_88 o ss re Q n y2 y3 → va_P D vwCl (wMd cy ad o ss mm im wa le ro re fa nu) H → va_S A s.heap H locs → lv_has ls 5 [(0, .ref (ad 0)), (2, .int (iI y2)), (3, .int (iI y3))] → W p l e rX4_count s m args below meth c H locs 0 0 Qg (F0 m 88 ls []) := by
    intro  n
    induction n with
    | zero => intro _ _ _ _ _ h; exact h.elim
    | succ n ih =>
      intro y2 y3 H locs ls h hP hS hl
      rw [wX4_count_88_s] at h
      refine lv_iload_n F.1 F.2.1 dX4_count_88 rfl (lv_at hl 2 rfl) ?_
      refine gv_bipush F ⟨by decide, by decide⟩ dX4_count_89 ?_
      obtain ⟨g15, h⟩ := h
      refine gv_icmp_ge (tgt := 134) F g15 ⟨by decide, by decide⟩ dX4_count_91 (by decide) (fun c16 => ?_) (fun c16 => ?_)
      · have h := h.1 c16
        refine lv_iload_n F.1 F.2.1 dX4_count_134 rfl (lv_at hl 1 rfl) ?_
        exact ret y2 H locs 135 ls h rfl hS dX4_count_135
      · have h := h.2 c16
        refine lv_iload_n F.1 F.2.1 dX4_count_94 rfl (lv_at hl 2 rfl) ?_
        refine gv_iconst F dX4_count_95 ?_
        refine gv_iadd F dX4_count_96 ?_
        refine gv_name (fun v17 ev17 => ?_)
        have h := h v17 ev17
        refine lv_istore (lv' := [(4, .int (iI v17)), (0, .ref (ad 0)), (2, .int (iI y2)), (3, .int (iI y3))]) F.1 F.2.1 dX4_count_97 hl (by decide) rfl (fun ls hl => ?_)
        obtain ⟨n18, h⟩ := h
        exact L99 _ ih n18 y2 y3 v17 H locs ls h hP hS (lv_sub hl [1, 2, 3, 0] rfl)
  refine lv_iload_n F.1 F.2.1 dX4_count_0 rfl (lv_at hl 1 rfl) ?_
  refine gv_bipush F ⟨by decide, by decide⟩ dX4_count_1 ?_
  refine gv_bipush F ⟨by decide, by decide⟩ dX4_count_3 ?_
  refine gc_SR (As := [.int (iI x1), .int (iI 11), .int (iI 16)]) F hK hA hP hS gPnil (c_X4_isIn l D cy x1 11 16 _ h) (cwS 3 F.2.2.2.2 (gG_S k832 k833 k67 k834) rfl rfl rfl hd_X4_isIn ⟨Nat.le_of_ble_eq_true rfl, Nat.le_of_ble_eq_true rfl⟩) dX4_count_5 rfl rfl hl.1 (Nat.le_of_ble_eq_true rfl) ⟨Nat.le_of_ble_eq_true rfl, Nat.le_of_ble_eq_true rfl⟩ (fun u19 H locs h hP hS => ?_)
  obtain ⟨bu19, h⟩ := h
  refine gv_if_eq (tgt := 21) F (gRb bu19) dX4_count_8 (by decide) (fun c20 => ?_) (fun c20 => ?_)
  · have h := h.1 c20
    refine gv_iconst F dX4_count_21 ?_
    refine lv_istore_n (lv' := [(2, .int (iI 0)), (0, .ref (ad 0)), (1, .int (iI x1))]) F.1 F.2.1 dX4_count_22 rfl hl (by decide) rfl (fun ls hl => ?_)
    refine lv_iload_n F.1 F.2.1 dX4_count_23 rfl (lv_at hl 2 rfl) ?_
    obtain ⟨g21, h⟩ := h
    by_cases c22 : x1 = 0
    · have h := h.1 c22
      refine gv_tableIn (tgt := 72) (off := 48) F g21 c22 (by decide) (by decide) dX4_count_24 rfl (by decide) ?_
      refine lv_aload_n F.1 F.2.1 dX4_count_72 rfl (lv_at hl 1 rfl) ?_
      refine gv_get F hin4 hK hP 0 rfl rfl 0 (by decide) k756 rfl dX4_count_73 ?_
      refine gv_iconst F dX4_count_76 ?_
      refine gv_iald (n := 147) (g := ss) F hK hP 1 rfl rfl (by decide) ⟨by decide, by decide⟩ dX4_count_77 ?_
      exact ret (ss 0) H locs 78 ls h rfl hS dX4_count_78
    by_cases c23 : x1 = 1
    · have h := h.2.1 c23
      refine gv_tableIn (tgt := 79) (off := 55) F g21 c23 (by decide) (by decide) dX4_count_24 rfl (by decide) ?_
      refine lv_aload_n F.1 F.2.1 dX4_count_79 rfl (lv_at hl 1 rfl) ?_
      refine gv_get F hin4 hK hP 0 rfl rfl 0 (by decide) k756 rfl dX4_count_80 ?_
      refine gv_iconst F dX4_count_83 ?_
      refine gv_iald (n := 147) (g := ss) F hK hP 1 rfl rfl (by decide) ⟨by decide, by decide⟩ dX4_count_84 ?_
      exact ret (ss 1) H locs 85 ls h rfl hS dX4_count_85
    by_cases c24 : x1 = 2
    · have h := h.2.2.1 c24
      refine gv_tableIn (tgt := 86) (off := 62) F g21 c24 (by decide) (by decide) dX4_count_24 rfl (by decide) ?_
      refine gv_iconst F dX4_count_86 ?_
      refine lv_istore_n (lv' := [(3, .int (iI 0)), (2, .int (iI 0)), (0, .ref (ad 0)), (1, .int (iI x1))]) F.1 F.2.1 dX4_count_87 rfl hl (by decide) rfl (fun ls hl => ?_)
      obtain ⟨n25, h⟩ := h
      exact L88 n25 0 0 H locs ls h hP hS (lv_sub hl [2, 1, 0] rfl)
    by_cases c26 : x1 = 3
    · have h := h.2.2.2.1 c26
      refine gv_tableIn (tgt := 136) (off := 112) F g21 c26 (by decide) (by decide) dX4_count_24 rfl (by decide) ?_
      refine lv_aload_n F.1 F.2.1 dX4_count_136 rfl (lv_at hl 1 rfl) ?_
      refine gv_get F hin4 hK hP 0 rfl rfl 0 (by decide) k756 rfl dX4_count_137 ?_
      refine gv_iconst F dX4_count_140 ?_
      refine gv_iald (n := 147) (g := ss) F hK hP 1 rfl rfl (by decide) ⟨by decide, by decide⟩ dX4_count_141 ?_
      exact ret (ss 2) H locs 142 ls h rfl hS dX4_count_142
    by_cases c27 : x1 = 4
    · have h := h.2.2.2.2.1 c27
      refine gv_tableIn (tgt := 143) (off := 119) F g21 c27 (by decide) (by decide) dX4_count_24 rfl (by decide) ?_
      refine gv_iconst F dX4_count_143 ?_
      refine lv_istore_n (lv' := [(3, .int (iI 0)), (2, .int (iI 0)), (0, .ref (ad 0)), (1, .int (iI x1))]) F.1 F.2.1 dX4_count_144 rfl hl (by decide) rfl (fun ls hl => ?_)
      obtain ⟨n28, h⟩ := h
      exact L145 n28 0 0 H locs ls h hP hS (lv_sub hl [2, 1, 0] rfl)
    by_cases c29 : x1 = 5
    · have h := h.2.2.2.2.2.1 c29
      refine gv_tableIn (tgt := 174) (off := 150) F g21 c29 (by decide) (by decide) dX4_count_24 rfl (by decide) ?_
      refine lv_aload_n F.1 F.2.1 dX4_count_174 rfl (lv_at hl 1 rfl) ?_
      refine gv_get F hin4 hK hP 0 rfl rfl 0 (by decide) k756 rfl dX4_count_175 ?_
      refine gc_SR (As := [.ref (ad 1)]) F hK hA hP hS (cp_md_s hP) (c_X4_rightAll l D cy (ad 1) ss _ h) (cwS 1 F.2.2.2.2 (gG_S k949 k950 k67 k951) rfl rfl rfl hd_X4_rightAll ⟨Nat.le_of_ble_eq_true rfl, Nat.le_of_ble_eq_true rfl⟩) dX4_count_178 rfl rfl hl.1 (Nat.le_of_ble_eq_true rfl) ⟨Nat.le_of_ble_eq_true rfl, Nat.le_of_ble_eq_true rfl⟩ (fun u30 H locs h hP hS => ?_)
      exact ret u30 H locs 181 ls h rfl hS dX4_count_181
    by_cases c31 : x1 = 6
    · have h := h.2.2.2.2.2.2.1 c31
      refine gv_tableIn (tgt := 182) (off := 158) F g21 c31 (by decide) (by decide) dX4_count_24 rfl (by decide) ?_
      refine lv_aload_n F.1 F.2.1 dX4_count_182 rfl (lv_at hl 1 rfl) ?_
      refine gv_get F hin4 hK hP 0 rfl rfl 9 (by decide) k765 rfl dX4_count_183 ?_
      exact ret (o 9) H locs 186 ls h rfl hS dX4_count_186
    by_cases c32 : x1 = 7
    · have h := h.2.2.2.2.2.2.2.1 c32
      refine gv_tableIn (tgt := 187) (off := 163) F g21 c32 (by decide) (by decide) dX4_count_24 rfl (by decide) ?_
      refine lv_aload_n F.1 F.2.1 dX4_count_187 rfl (lv_at hl 1 rfl) ?_
      refine gv_get F hin4 hK hP 0 rfl rfl 8 (by decide) k764 rfl dX4_count_188 ?_
      exact ret (o 8) H locs 191 ls h rfl hS dX4_count_191
    have cd : x1 < 0 ∨ 7 < x1 := by omega
    have h := h.2.2.2.2.2.2.2.2 cd
    refine gv_tableOut (tgt := 192) F g21 cd dX4_count_24 (by decide) ?_
    refine gv_bipush F ⟨by decide, by decide⟩ dX4_count_192 ?_
    exact ret (-9) H locs 194 ls h rfl hS dX4_count_194
  · have h := h.2 c20
    refine lv_aload_n F.1 F.2.1 dX4_count_11 rfl (lv_at hl 0 rfl) ?_
    refine gv_get F hin4 hK hP 0 rfl rfl 7 (by decide) k763 rfl dX4_count_12 ?_
    refine lv_iload_n F.1 F.2.1 dX4_count_15 rfl (lv_at hl 1 rfl) ?_
    refine gv_bipush F ⟨by decide, by decide⟩ dX4_count_16 ?_
    refine gv_isub F dX4_count_18 ?_
    obtain ⟨g33, h⟩ := h
    refine gv_iald (n := 7) (g := re) F hK hP 7 rfl rfl (by decide) g33 dX4_count_19 ?_
    exact ret (re (x1 - 10)) H locs 20 ls h rfl hS dX4_count_20
