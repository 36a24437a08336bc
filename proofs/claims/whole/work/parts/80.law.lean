/-! THE CLAIM OUT OF ONE WALK OF THE LAW'S BODY. Your part is whole_start (and what it stands on); all else here is the same for every law, but numbers. -/
def R_law : String := "GreenHorseUpstairsLaw"
def lw_P (b : Addr) (xs : List Int32) (args : Array Value) (s : State) : Prop := args = #[.ref b] ∧ s.IntsAt b xs ∧ xs.length ≤ 2048 ∧ (Jvm.Cond.and given_1 narrow_1).before args s = true
def lw_Q (_ : Array Value) (s : State) (o : Outcome) (t : State) : Prop := o = .returned (some (.int 1)) ∧ Framed s o t [] 75 1865
def lw_Z (below : List Frame) (a : Array Value) (s : State) : State → Prop := fun t => ∃ o, t.status = .running ∧ Ended t below o ∧ lw_Q a s o t
/-- the law's own end, with 1 on the stack, nothing written that was there before, its room as the claim has it -/
theorem lw_ret {p : Program} {l : Launch} {e : Env} {s : State} {m : MethodId} {below : List Frame} {meth : Method} {c : Code} {b : Nat} (hx : p.tables.exec = Jvm.exec) (hb : c.code = code) (hr : meth.sig.returnType = ret) (hlocks : meth.locks = false) {pc : Nat} {H : Heap} {ls : Array Slot} (hdg : decode code pc = .ok (.ireturn, 1)) : W p l e room_1 s m #[Value.ref b] below meth c H [] 75 1865 (lw_Z below #[Value.ref b] s) (F0 m pc ls [.int 1]) := by
  intro T hT X
  obtain ⟨fs, hret, hrun, hended, hW, hframe⟩ := X.leave (v := some (.int 1)) (hlocks := hlocks) (fun h => by rw [hr] at h; cases h)
  have hmeth' : T.vm.method? m = some meth := X.method'
  refine ⟨T.setFrames fs, ?_, .returned (some (.int 1)), hrun, hended, rfl, ⟨_, rfl⟩, hW, hframe⟩
  jvm_step X.here [X.here.top, hx, hb, hdg, hmeth', hr, ret, narrow_b1]
  (try refine ⟨rfl, ?_⟩); (try refine ⟨rfl, ?_⟩)
  first | (intro acts; rw [hret _ acts rfl rfl rfl]) | rw [hret _ _ rfl rfl rfl]
  exact Steps.refl _
/-- what holds at the law's entry: the machine, the code, the tables' words (any of lw_tbl by 'hts w (by decide +kernel)'), the script of L ints xs at the cell b, what the Statement gives of the start (any of its parts by flat_of_before) -/
def lw_At (p : Program) (s : State) (m : MethodId) (meth : Method) (c : Code) (b L : Nat) (xs : Nat → Int32) : Prop :=
  p.tables.exec = Jvm.exec ∧ c.code = code ∧ meth.sig.returnType = ret ∧ c.maxLocals = 4 ∧ s.vm.findClass R_law = some m.cls ∧ (∀ w ∈ lw_tbl, w.before #[Value.ref b] s = true) ∧ va_X b L xs s s.heap ∧ b < s.heap.size ∧ meth.locks = false ∧ (Jvm.Cond.and given_1 narrow_1).before #[Value.ref b] s = true
theorem gJ_left {A : Nat → Prop} {D : va_G} {cl : List vw_C} {B B1 post : va_W} {H H1 : Heap} (hP : va_P D cl (B ++ post) H) (hD : va_D A (B ++ post)) (hk : ∀ q : Nat, q < H.size → ¬ va_A B H.size q → H1[q]? = H[q]?) (hP1 : va_P D cl B1 H1) (hadr : B1.map Prod.fst = B.map Prod.fst) : va_P D cl (B1 ++ post) H1 ∧ va_D A (B1 ++ post) := gJ_mid (pre := []) hP hD hk hP1 hadr
theorem gJ_right {A : Nat → Prop} {D : va_G} {cl : List vw_C} {pre B B1 : va_W} {H H1 : Heap} (hP : va_P D cl (pre ++ B) H) (hD : va_D A (pre ++ B)) (hk : ∀ q : Nat, q < H.size → ¬ va_A B H.size q → H1[q]? = H[q]?) (hP1 : va_P D cl B1 H1) (hadr : B1.map Prod.fst = B.map Prod.fst) : va_P D cl (pre ++ B1) H1 ∧ va_D A (pre ++ B1) := by
  have h := gJ_mid (pre := pre) (post := []) (by rw [List.append_nil]; exact hP) (by rw [List.append_nil]; exact hD) hk hP1 hadr
  rw [List.append_nil] at h
  exact h
theorem gh_adr {cy : ClassId} {aO aL aN aT aK aI : Nat → Nat} {o rw rf lg sg o1 rw1 rf1 lg1 sg1 : AR} {N T K I N1 T1 K1 I1 : MS} : (wGh cy aO aL aN aT aK aI o1 rw1 rf1 lg1 sg1 N1 T1 K1 I1).map Prod.fst = (wGh cy aO aL aN aT aK aI o rw rf lg sg N T K I).map Prod.fst := by
  simp [wGh, wLe, wMu]
def sv (xs : Nat → Int32) (a : Int) : Int := (xs a.toNat).toInt
section GVL
variable {p : Program} {l : Launch} {e : Env} {R : Room} {s : State} {m : MethodId} {args : Array Value} {below : List Frame} {meth : Method} {c : Code} {H : Heap} {locs : List Loc} {cells slots : Nat} {Q : State → Prop}
variable {cc : ByteArray} {nL : Nat} {own : String} {pc : Nat} {ls : Array Slot} {rest : List Value} {A : Nat → Prop} {H0 : Heap}
theorem gv_sld (F : CallFix p m c cc nL s args gT own) {b L : Nat} {xs : Nat → Int32} {i : Int} (hX : va_X b L xs s H0) (hbl : b < H0.size) (hbA : ¬ A b) (hS : va_S A H0 H locs) (hL : L ≤ 2048) (hi : 0 ≤ i ∧ i < L) (hdg : decode cc pc = .ok (.iaload, 1))
    (k : W p l e R s m args below meth c H locs cells slots Q (F0 m (pc + 1) ls (.int (iI (sv xs i)) :: rest))) : W p l e R s m args below meth c H locs cells slots Q (F0 m pc ls (.int (iI i) :: .ref b :: rest)) := by
  refine va_sld F.1 F.2.1 hX hbl hbA hS (iI_in hi (by omega)) hdg ?_
  rw [iI_clamp hi.1 (by omega), show xs i.toNat = iI (sv xs i) from (iI_of _).symm]
  exact k
theorem gv_slen (F : CallFix p m c cc nL s args gT own) {b L : Nat} {xs : Nat → Int32} (hX : va_X b L xs s H0) (hbl : b < H0.size) (hbA : ¬ A b) (hS : va_S A H0 H locs) (hdg : decode cc pc = .ok (.arraylength, 1))
    (k : W p l e R s m args below meth c H locs cells slots Q (F0 m (pc + 1) ls (.int (iI (L : Int)) :: rest))) : W p l e R s m args below meth c H locs cells slots Q (F0 m pc ls (.ref b :: rest)) := va_slen F.1 F.2.1 hX hbl hbA hS hdg (by rw [iI_nat]; exact k)
end GVL
set_option maxHeartbeats 4000000 in
set_option maxRecDepth 20000 in
theorem lw_letter {p : Program} {l : Launch} {e : Env} {s : State} {m : MethodId} {below : List Frame} {meth : Method} {c : Code} {b L : Nat} {xs : Nat → Int32} {D : va_G} {cy : ClassId} {kS vS : Nat} {aO aL aN aT aK aI am : Nat → Nat} {o : AR} {rw : AR} {rf : AR} {lg : AR} {sg : AR} {N : MS} {T : MS} {K : MS} {I : MS} {o2 : AR} {ss : AR} {mm : AR} {im : AR} {wa : AR} {le : AR} {ro : AR} {re : AR} {fa : AR} {nu : AR} (F : CallFix p m c cL_law 4 s #[Value.ref b] gT RL) (hX : va_X b L xs s s.heap) (hbl : b < s.heap.size) (hL : L ≤ 2048) (hK : va_K D vwCl [(cy, .int)] s) (hG : gStr kS vS (fun q : Nat => s.heap.size ≤ q) s s.heap) (i : Int) (hi : 0 ≤ i ∧ i + 3 < L) (ih : ∀ (o : AR) (rw : AR) (rf : AR) (lg : AR) (sg : AR) (N : MS) (T : MS) (K : MS) (I : MS) (o2 : AR) (ss : AR) (mm : AR) (im : AR) (wa : AR) (le : AR) (ro : AR) (re : AR) (fa : AR) (nu : AR) (H : Heap) (locs : List Loc) (ls : Array Slot), gInv o rw rf lg sg N T K I o2 ss mm im wa le ro re fa nu → va_P D vwCl (wGh cy aO aL aN aT aK aI o rw rf lg sg N T K I ++ wMd cy am o2 ss mm im wa le ro re fa nu) H → va_D (fun q : Nat => s.heap.size ≤ q) (wGh cy aO aL aN aT aK aI o rw rf lg sg N T K I ++ wMd cy am o2 ss mm im wa le ro re fa nu) → va_S (fun q : Nat => s.heap.size ≤ q) s.heap H locs → lv_has ls 4 [(0, .ref b), (1, .ref (aO 0)), (2, .ref (am 0)), (3, .int (iI i))] → W p l e room_1 s m #[Value.ref b] below meth c H locs 75 1865 (lw_Z below #[Value.ref b] s) (F0 m 1126 ls [])) {H : Heap} {locs : List Loc} {ls : Array Slot} (hI : gInv o rw rf lg sg N T K I o2 ss mm im wa le ro re fa nu) (hP : va_P D vwCl (wGh cy aO aL aN aT aK aI o rw rf lg sg N T K I ++ wMd cy am o2 ss mm im wa le ro re fa nu) H) (hD : va_D (fun q : Nat => s.heap.size ≤ q) (wGh cy aO aL aN aT aK aI o rw rf lg sg N T K I ++ wMd cy am o2 ss mm im wa le ro re fa nu)) (hS : va_S (fun q : Nat => s.heap.size ≤ q) s.heap H locs) (hl : lv_has ls 4 [(0, .ref b), (1, .ref (aO 0)), (2, .ref (am 0)), (3, .int (iI i))]) : W p l e room_1 s m #[Value.ref b] below meth c H locs 75 1865 (lw_Z below #[Value.ref b] s) (F0 m 184 ls []) := by
  have hA : ∀ q : Nat, s.heap.size ≤ q → (fun q : Nat => s.heap.size ≤ q) q := fun _ h => h
  have hbA : ¬ (fun q : Nat => s.heap.size ≤ q) b := Nat.not_le.mpr hbl
  have h := op_letter hI (sv xs (i + 1)) (gR_toInt _)
  refine lv_aload_n F.1 F.2.1 dL_law_184 rfl (lv_at hl 1 rfl) ?_
  refine lv_aload_n F.1 F.2.1 dL_law_185 rfl (lv_at hl 0 rfl) ?_
  refine lv_iload_n F.1 F.2.1 dL_law_186 rfl (lv_at hl 3 rfl) ?_
  refine gv_iconst F dL_law_187 ?_
  refine gv_iadd F dL_law_188 ?_
  refine gv_sld F hX hbl hbA hS hL ⟨by omega, by omega⟩ dL_law_189 ?_
  refine gc_VI (As := [.int (iI (sv xs (i + 1)))]) (wn := fun u : AR × AR × AR => wGh cy aO aL aN aT aK aI o rw u.1 u.2.1 u.2.2 N T K I ++ wMd cy am o2 ss mm im wa le ro re fa nu) F hK hA hP hD hS (gP_left hP) (gD_left hD) (fun u H1 hk h1 _ => gJ_left hP hD hk h1 gh_adr) (c_X3_letter l D cy aO aL aN aT aK aI o rw rf lg sg N T K I (sv xs (i + 1)) _ h) (cwV 1 F.2.2.2.2 (gG_V k216 k217 k218 k61 k219) rfl rfl rfl hd_X3_letter ⟨Nat.le_of_ble_eq_true rfl, Nat.le_of_ble_eq_true rfl⟩) rfl rfl dL_law_190 rfl rfl hl.1 (Nat.le_of_ble_eq_true rfl) ⟨Nat.le_of_ble_eq_true rfl, Nat.le_of_ble_eq_true rfl⟩ (fun r u H locs h hP hD hS => ?_)
  obtain ⟨rf1, lg1, sg1⟩ := u
  try dsimp only at h hP hD
  refine lv_aload_n F.1 F.2.1 dL_law_193 rfl (lv_at hl 2 rfl) ?_
  refine lv_aload_n F.1 F.2.1 dL_law_194 rfl (lv_at hl 0 rfl) ?_
  refine lv_iload_n F.1 F.2.1 dL_law_195 rfl (lv_at hl 3 rfl) ?_
  refine gv_iconst F dL_law_196 ?_
  refine gv_iadd F dL_law_197 ?_
  refine gv_sld F hX hbl hbA hS hL ⟨by omega, by omega⟩ dL_law_198 ?_
  refine gc_VI (As := [.int (iI (sv xs (i + 1)))]) (wn := fun u : AR × AR × AR => wGh cy aO aL aN aT aK aI o rw rf1 lg1 sg1 N T K I ++ wMd cy am u.1 ss mm im wa u.2.1 ro u.2.2 fa nu) F hK hA hP hD hS (gP_right hP) (gD_right hD) (fun u H1 hk h1 _ => gJ_right hP hD hk h1 rfl) (c_X4_letter l D cy am o2 ss mm im wa le ro re fa nu (sv xs (i + 1)) _ h) (cwV 1 F.2.2.2.2 (gG_V k808 k809 k810 k67 k811) rfl rfl rfl hd_X4_letter ⟨Nat.le_of_ble_eq_true rfl, Nat.le_of_ble_eq_true rfl⟩) rfl rfl dL_law_199 rfl rfl hl.1 (Nat.le_of_ble_eq_true rfl) ⟨Nat.le_of_ble_eq_true rfl, Nat.le_of_ble_eq_true rfl⟩ (fun r2 u H locs h hP hD hS => ?_)
  obtain ⟨o21, le1, re1⟩ := u
  try dsimp only at h hP hD
  refine lv_icmp_eq (tgt := 1126) F.1 F.2.1 dL_law_202 (by decide) (fun _ => ?_) (fun c9 => absurd (by rw [h.1]) c9)
  exact ih o rw rf1 lg1 sg1 N T K I o21 ss mm im wa le1 ro re1 fa nu H locs ls h.2 hP hD hS hl
set_option maxHeartbeats 4000000 in
set_option maxRecDepth 20000 in
theorem lw_museum {p : Program} {l : Launch} {e : Env} {s : State} {m : MethodId} {below : List Frame} {meth : Method} {c : Code} {b L : Nat} {xs : Nat → Int32} {D : va_G} {cy : ClassId} {kS vS : Nat} {aO aL aN aT aK aI am : Nat → Nat} {o : AR} {rw : AR} {rf : AR} {lg : AR} {sg : AR} {N : MS} {T : MS} {K : MS} {I : MS} {o2 : AR} {ss : AR} {mm : AR} {im : AR} {wa : AR} {le : AR} {ro : AR} {re : AR} {fa : AR} {nu : AR} (F : CallFix p m c cL_law 4 s #[Value.ref b] gT RL) (hX : va_X b L xs s s.heap) (hbl : b < s.heap.size) (hL : L ≤ 2048) (hK : va_K D vwCl [(cy, .int)] s) (hG : gStr kS vS (fun q : Nat => s.heap.size ≤ q) s s.heap) (i : Int) (hi : 0 ≤ i ∧ i + 3 < L) (ih : ∀ (o : AR) (rw : AR) (rf : AR) (lg : AR) (sg : AR) (N : MS) (T : MS) (K : MS) (I : MS) (o2 : AR) (ss : AR) (mm : AR) (im : AR) (wa : AR) (le : AR) (ro : AR) (re : AR) (fa : AR) (nu : AR) (H : Heap) (locs : List Loc) (ls : Array Slot), gInv o rw rf lg sg N T K I o2 ss mm im wa le ro re fa nu → va_P D vwCl (wGh cy aO aL aN aT aK aI o rw rf lg sg N T K I ++ wMd cy am o2 ss mm im wa le ro re fa nu) H → va_D (fun q : Nat => s.heap.size ≤ q) (wGh cy aO aL aN aT aK aI o rw rf lg sg N T K I ++ wMd cy am o2 ss mm im wa le ro re fa nu) → va_S (fun q : Nat => s.heap.size ≤ q) s.heap H locs → lv_has ls 4 [(0, .ref b), (1, .ref (aO 0)), (2, .ref (am 0)), (3, .int (iI i))] → W p l e room_1 s m #[Value.ref b] below meth c H locs 75 1865 (lw_Z below #[Value.ref b] s) (F0 m 1126 ls [])) {H : Heap} {locs : List Loc} {ls : Array Slot} (hI : gInv o rw rf lg sg N T K I o2 ss mm im wa le ro re fa nu) (hP : va_P D vwCl (wGh cy aO aL aN aT aK aI o rw rf lg sg N T K I ++ wMd cy am o2 ss mm im wa le ro re fa nu) H) (hD : va_D (fun q : Nat => s.heap.size ≤ q) (wGh cy aO aL aN aT aK aI o rw rf lg sg N T K I ++ wMd cy am o2 ss mm im wa le ro re fa nu)) (hS : va_S (fun q : Nat => s.heap.size ≤ q) s.heap H locs) (hl : lv_has ls 4 [(0, .ref b), (1, .ref (aO 0)), (2, .ref (am 0)), (3, .int (iI i))]) : W p l e room_1 s m #[Value.ref b] below meth c H locs 75 1865 (lw_Z below #[Value.ref b] s) (F0 m 207 ls []) := by
  have hA : ∀ q : Nat, s.heap.size ≤ q → (fun q : Nat => s.heap.size ≤ q) q := fun _ h => h
  have hbA : ¬ (fun q : Nat => s.heap.size ≤ q) b := Nat.not_le.mpr hbl
  have h := op_museum hI  
  refine lv_aload_n F.1 F.2.1 dL_law_207 rfl (lv_at hl 1 rfl) ?_
  refine gcs_VI (As := []) (wn := fun u : AR × MS × MS => wGh cy aO aL aN aT aK aI o rw rf u.1 sg u.2.1 T u.2.2 I ++ wMd cy am o2 ss mm im wa le ro re fa nu) F hK hA hP hD hG hS (gP_left hP) (gD_left hD) (fun u H1 hk h1 _ => gJ_left hP hD hk h1 gh_adr) (c_X3_museum l D cy kS vS aO aL aN aT aK aI o rw rf lg sg N T K I  _ h) (cwV 0 F.2.2.2.2 (gG_V k232 k233 k234 k61 k235) rfl rfl rfl hd_X3_museum ⟨Nat.le_of_ble_eq_true rfl, Nat.le_of_ble_eq_true rfl⟩) rfl rfl dL_law_208 rfl rfl hl.1 (Nat.le_of_ble_eq_true rfl) ⟨Nat.le_of_ble_eq_true rfl, Nat.le_of_ble_eq_true rfl⟩ (fun r u H locs h hP hD hS => ?_)
  obtain ⟨lg1, N1, K1⟩ := u
  try dsimp only at h hP hD
  refine lv_aload_n F.1 F.2.1 dL_law_211 rfl (lv_at hl 2 rfl) ?_
  refine gc_VI (As := []) (wn := fun u : AR × AR × AR × AR × AR => wGh cy aO aL aN aT aK aI o rw rf lg1 sg N1 T K1 I ++ wMd cy am u.1 u.2.1 mm im u.2.2.1 le ro re u.2.2.2.1 u.2.2.2.2) F hK hA hP hD hS (gP_right hP) (gD_right hD) (fun u H1 hk h1 _ => gJ_right hP hD hk h1 rfl) (c_X4_museum l D cy am o2 ss mm im wa le ro re fa nu  _ h) (cwV 0 F.2.2.2.2 (gG_V k816 k817 k818 k67 k819) rfl rfl rfl hd_X4_museum ⟨Nat.le_of_ble_eq_true rfl, Nat.le_of_ble_eq_true rfl⟩) rfl rfl dL_law_212 rfl rfl hl.1 (Nat.le_of_ble_eq_true rfl) ⟨Nat.le_of_ble_eq_true rfl, Nat.le_of_ble_eq_true rfl⟩ (fun r2 u H locs h hP hD hS => ?_)
  obtain ⟨o21, ss1, wa1, fa1, nu1⟩ := u
  try dsimp only at h hP hD
  refine lv_icmp_eq (tgt := 1126) F.1 F.2.1 dL_law_215 (by decide) (fun _ => ?_) (fun c9 => absurd (by rw [h.1]) c9)
  exact ih o rw rf lg1 sg N1 T K1 I o21 ss1 mm im wa1 le ro re fa1 nu1 H locs ls h.2 hP hD hS hl
set_option maxHeartbeats 4000000 in
set_option maxRecDepth 20000 in
theorem lw_door {p : Program} {l : Launch} {e : Env} {s : State} {m : MethodId} {below : List Frame} {meth : Method} {c : Code} {b L : Nat} {xs : Nat → Int32} {D : va_G} {cy : ClassId} {kS vS : Nat} {aO aL aN aT aK aI am : Nat → Nat} {o : AR} {rw : AR} {rf : AR} {lg : AR} {sg : AR} {N : MS} {T : MS} {K : MS} {I : MS} {o2 : AR} {ss : AR} {mm : AR} {im : AR} {wa : AR} {le : AR} {ro : AR} {re : AR} {fa : AR} {nu : AR} (F : CallFix p m c cL_law 4 s #[Value.ref b] gT RL) (hX : va_X b L xs s s.heap) (hbl : b < s.heap.size) (hL : L ≤ 2048) (hK : va_K D vwCl [(cy, .int)] s) (hG : gStr kS vS (fun q : Nat => s.heap.size ≤ q) s s.heap) (i : Int) (hi : 0 ≤ i ∧ i + 3 < L) (ih : ∀ (o : AR) (rw : AR) (rf : AR) (lg : AR) (sg : AR) (N : MS) (T : MS) (K : MS) (I : MS) (o2 : AR) (ss : AR) (mm : AR) (im : AR) (wa : AR) (le : AR) (ro : AR) (re : AR) (fa : AR) (nu : AR) (H : Heap) (locs : List Loc) (ls : Array Slot), gInv o rw rf lg sg N T K I o2 ss mm im wa le ro re fa nu → va_P D vwCl (wGh cy aO aL aN aT aK aI o rw rf lg sg N T K I ++ wMd cy am o2 ss mm im wa le ro re fa nu) H → va_D (fun q : Nat => s.heap.size ≤ q) (wGh cy aO aL aN aT aK aI o rw rf lg sg N T K I ++ wMd cy am o2 ss mm im wa le ro re fa nu) → va_S (fun q : Nat => s.heap.size ≤ q) s.heap H locs → lv_has ls 4 [(0, .ref b), (1, .ref (aO 0)), (2, .ref (am 0)), (3, .int (iI i))] → W p l e room_1 s m #[Value.ref b] below meth c H locs 75 1865 (lw_Z below #[Value.ref b] s) (F0 m 1126 ls [])) {H : Heap} {locs : List Loc} {ls : Array Slot} (hI : gInv o rw rf lg sg N T K I o2 ss mm im wa le ro re fa nu) (hP : va_P D vwCl (wGh cy aO aL aN aT aK aI o rw rf lg sg N T K I ++ wMd cy am o2 ss mm im wa le ro re fa nu) H) (hD : va_D (fun q : Nat => s.heap.size ≤ q) (wGh cy aO aL aN aT aK aI o rw rf lg sg N T K I ++ wMd cy am o2 ss mm im wa le ro re fa nu)) (hS : va_S (fun q : Nat => s.heap.size ≤ q) s.heap H locs) (hl : lv_has ls 4 [(0, .ref b), (1, .ref (aO 0)), (2, .ref (am 0)), (3, .int (iI i))]) : W p l e room_1 s m #[Value.ref b] below meth c H locs 75 1865 (lw_Z below #[Value.ref b] s) (F0 m 220 ls []) := by
  have hA : ∀ q : Nat, s.heap.size ≤ q → (fun q : Nat => s.heap.size ≤ q) q := fun _ h => h
  have hbA : ¬ (fun q : Nat => s.heap.size ≤ q) b := Nat.not_le.mpr hbl
  have h := op_door hI (sv xs (i + 1)) (sv xs (i + 2)) (gR_toInt _) (gR_toInt _)
  refine lv_aload_n F.1 F.2.1 dL_law_220 rfl (lv_at hl 1 rfl) ?_
  refine lv_aload_n F.1 F.2.1 dL_law_221 rfl (lv_at hl 0 rfl) ?_
  refine lv_iload_n F.1 F.2.1 dL_law_222 rfl (lv_at hl 3 rfl) ?_
  refine gv_iconst F dL_law_223 ?_
  refine gv_iadd F dL_law_224 ?_
  refine gv_sld F hX hbl hbA hS hL ⟨by omega, by omega⟩ dL_law_225 ?_
  refine lv_aload_n F.1 F.2.1 dL_law_226 rfl (lv_at hl 0 rfl) ?_
  refine lv_iload_n F.1 F.2.1 dL_law_227 rfl (lv_at hl 3 rfl) ?_
  refine gv_iconst F dL_law_228 ?_
  refine gv_iadd F dL_law_229 ?_
  refine gv_sld F hX hbl hbA hS hL ⟨by omega, by omega⟩ dL_law_230 ?_
  refine gc_VI (As := [.int (iI (sv xs (i + 1))), .int (iI (sv xs (i + 2)))]) (wn := fun u : AR => wGh cy aO aL aN aT aK aI o rw u lg sg N T K I ++ wMd cy am o2 ss mm im wa le ro re fa nu) F hK hA hP hD hS (gP_left hP) (gD_left hD) (fun u H1 hk h1 _ => gJ_left hP hD hk h1 gh_adr) (c_X3_door l D cy aO aL aN aT aK aI o rw rf lg sg N T K I (sv xs (i + 1)) (sv xs (i + 2)) _ h) (cwV 2 F.2.2.2.2 (gG_V k479 k480 k481 k61 k482) rfl rfl rfl hd_X3_door ⟨Nat.le_of_ble_eq_true rfl, Nat.le_of_ble_eq_true rfl⟩) rfl rfl dL_law_231 rfl rfl hl.1 (Nat.le_of_ble_eq_true rfl) ⟨Nat.le_of_ble_eq_true rfl, Nat.le_of_ble_eq_true rfl⟩ (fun r u H locs h hP hD hS => ?_)
  obtain ⟨rf1, rfl⟩ : ∃ z, z = u := ⟨_, rfl⟩
  try dsimp only at h hP hD
  refine lv_aload_n F.1 F.2.1 dL_law_234 rfl (lv_at hl 2 rfl) ?_
  refine lv_aload_n F.1 F.2.1 dL_law_235 rfl (lv_at hl 0 rfl) ?_
  refine lv_iload_n F.1 F.2.1 dL_law_236 rfl (lv_at hl 3 rfl) ?_
  refine gv_iconst F dL_law_237 ?_
  refine gv_iadd F dL_law_238 ?_
  refine gv_sld F hX hbl hbA hS hL ⟨by omega, by omega⟩ dL_law_239 ?_
  refine lv_aload_n F.1 F.2.1 dL_law_240 rfl (lv_at hl 0 rfl) ?_
  refine lv_iload_n F.1 F.2.1 dL_law_241 rfl (lv_at hl 3 rfl) ?_
  refine gv_iconst F dL_law_242 ?_
  refine gv_iadd F dL_law_243 ?_
  refine gv_sld F hX hbl hbA hS hL ⟨by omega, by omega⟩ dL_law_244 ?_
  refine gc_VI (As := [.int (iI (sv xs (i + 1))), .int (iI (sv xs (i + 2)))]) (wn := fun u : AR × AR => wGh cy aO aL aN aT aK aI o rw rf1 lg sg N T K I ++ wMd cy am o2 ss mm im wa le ro u.1 u.2 nu) F hK hA hP hD hS (gP_right hP) (gD_right hD) (fun u H1 hk h1 _ => gJ_right hP hD hk h1 rfl) (c_X4_door l D cy am o2 ss mm im wa le ro re fa nu (sv xs (i + 1)) (sv xs (i + 2)) _ h) (cwV 2 F.2.2.2.2 (gG_V k909 k910 k911 k67 k912) rfl rfl rfl hd_X4_door ⟨Nat.le_of_ble_eq_true rfl, Nat.le_of_ble_eq_true rfl⟩) rfl rfl dL_law_245 rfl rfl hl.1 (Nat.le_of_ble_eq_true rfl) ⟨Nat.le_of_ble_eq_true rfl, Nat.le_of_ble_eq_true rfl⟩ (fun r2 u H locs h hP hD hS => ?_)
  obtain ⟨re1, fa1⟩ := u
  try dsimp only at h hP hD
  refine lv_icmp_eq (tgt := 1126) F.1 F.2.1 dL_law_248 (by decide) (fun _ => ?_) (fun c9 => absurd (by rw [h.1]) c9)
  exact ih o rw rf1 lg sg N T K I o2 ss mm im wa le ro re1 fa1 nu H locs ls h.2 hP hD hS hl
set_option maxHeartbeats 4000000 in
set_option maxRecDepth 20000 in
theorem lw_question {p : Program} {l : Launch} {e : Env} {s : State} {m : MethodId} {below : List Frame} {meth : Method} {c : Code} {b L : Nat} {xs : Nat → Int32} {D : va_G} {cy : ClassId} {kS vS : Nat} {aO aL aN aT aK aI am : Nat → Nat} {o : AR} {rw : AR} {rf : AR} {lg : AR} {sg : AR} {N : MS} {T : MS} {K : MS} {I : MS} {o2 : AR} {ss : AR} {mm : AR} {im : AR} {wa : AR} {le : AR} {ro : AR} {re : AR} {fa : AR} {nu : AR} (F : CallFix p m c cL_law 4 s #[Value.ref b] gT RL) (hX : va_X b L xs s s.heap) (hbl : b < s.heap.size) (hL : L ≤ 2048) (hK : va_K D vwCl [(cy, .int)] s) (hG : gStr kS vS (fun q : Nat => s.heap.size ≤ q) s s.heap) (i : Int) (hi : 0 ≤ i ∧ i + 3 < L) (ih : ∀ (o : AR) (rw : AR) (rf : AR) (lg : AR) (sg : AR) (N : MS) (T : MS) (K : MS) (I : MS) (o2 : AR) (ss : AR) (mm : AR) (im : AR) (wa : AR) (le : AR) (ro : AR) (re : AR) (fa : AR) (nu : AR) (H : Heap) (locs : List Loc) (ls : Array Slot), gInv o rw rf lg sg N T K I o2 ss mm im wa le ro re fa nu → va_P D vwCl (wGh cy aO aL aN aT aK aI o rw rf lg sg N T K I ++ wMd cy am o2 ss mm im wa le ro re fa nu) H → va_D (fun q : Nat => s.heap.size ≤ q) (wGh cy aO aL aN aT aK aI o rw rf lg sg N T K I ++ wMd cy am o2 ss mm im wa le ro re fa nu) → va_S (fun q : Nat => s.heap.size ≤ q) s.heap H locs → lv_has ls 4 [(0, .ref b), (1, .ref (aO 0)), (2, .ref (am 0)), (3, .int (iI i))] → W p l e room_1 s m #[Value.ref b] below meth c H locs 75 1865 (lw_Z below #[Value.ref b] s) (F0 m 1126 ls [])) {H : Heap} {locs : List Loc} {ls : Array Slot} (hI : gInv o rw rf lg sg N T K I o2 ss mm im wa le ro re fa nu) (hP : va_P D vwCl (wGh cy aO aL aN aT aK aI o rw rf lg sg N T K I ++ wMd cy am o2 ss mm im wa le ro re fa nu) H) (hD : va_D (fun q : Nat => s.heap.size ≤ q) (wGh cy aO aL aN aT aK aI o rw rf lg sg N T K I ++ wMd cy am o2 ss mm im wa le ro re fa nu)) (hS : va_S (fun q : Nat => s.heap.size ≤ q) s.heap H locs) (hl : lv_has ls 4 [(0, .ref b), (1, .ref (aO 0)), (2, .ref (am 0)), (3, .int (iI i))]) : W p l e room_1 s m #[Value.ref b] below meth c H locs 75 1865 (lw_Z below #[Value.ref b] s) (F0 m 253 ls []) := by
  have hA : ∀ q : Nat, s.heap.size ≤ q → (fun q : Nat => s.heap.size ≤ q) q := fun _ h => h
  have hbA : ¬ (fun q : Nat => s.heap.size ≤ q) b := Nat.not_le.mpr hbl
  have h := op_question hI (sv xs (i + 1)) (sv xs (i + 2)) (gR_toInt _) (gR_toInt _)
  refine lv_aload_n F.1 F.2.1 dL_law_253 rfl (lv_at hl 1 rfl) ?_
  refine lv_aload_n F.1 F.2.1 dL_law_254 rfl (lv_at hl 0 rfl) ?_
  refine lv_iload_n F.1 F.2.1 dL_law_255 rfl (lv_at hl 3 rfl) ?_
  refine gv_iconst F dL_law_256 ?_
  refine gv_iadd F dL_law_257 ?_
  refine gv_sld F hX hbl hbA hS hL ⟨by omega, by omega⟩ dL_law_258 ?_
  refine lv_aload_n F.1 F.2.1 dL_law_259 rfl (lv_at hl 0 rfl) ?_
  refine lv_iload_n F.1 F.2.1 dL_law_260 rfl (lv_at hl 3 rfl) ?_
  refine gv_iconst F dL_law_261 ?_
  refine gv_iadd F dL_law_262 ?_
  refine gv_sld F hX hbl hbA hS hL ⟨by omega, by omega⟩ dL_law_263 ?_
  refine gc_VI (As := [.int (iI (sv xs (i + 1))), .int (iI (sv xs (i + 2)))]) (wn := fun u : AR => wGh cy aO aL aN aT aK aI o rw u lg sg N T K I ++ wMd cy am o2 ss mm im wa le ro re fa nu) F hK hA hP hD hS (gP_left hP) (gD_left hD) (fun u H1 hk h1 _ => gJ_left hP hD hk h1 gh_adr) (c_X3_question l D cy aO aL aN aT aK aI o rw rf lg sg N T K I (sv xs (i + 1)) (sv xs (i + 2)) _ h) (cwV 2 F.2.2.2.2 (gG_V k487 k488 k489 k61 k490) rfl rfl rfl hd_X3_question ⟨Nat.le_of_ble_eq_true rfl, Nat.le_of_ble_eq_true rfl⟩) rfl rfl dL_law_264 rfl rfl hl.1 (Nat.le_of_ble_eq_true rfl) ⟨Nat.le_of_ble_eq_true rfl, Nat.le_of_ble_eq_true rfl⟩ (fun r u H locs h hP hD hS => ?_)
  obtain ⟨rf1, rfl⟩ : ∃ z, z = u := ⟨_, rfl⟩
  try dsimp only at h hP hD
  refine lv_aload_n F.1 F.2.1 dL_law_267 rfl (lv_at hl 2 rfl) ?_
  refine lv_aload_n F.1 F.2.1 dL_law_268 rfl (lv_at hl 0 rfl) ?_
  refine lv_iload_n F.1 F.2.1 dL_law_269 rfl (lv_at hl 3 rfl) ?_
  refine gv_iconst F dL_law_270 ?_
  refine gv_iadd F dL_law_271 ?_
  refine gv_sld F hX hbl hbA hS hL ⟨by omega, by omega⟩ dL_law_272 ?_
  refine lv_aload_n F.1 F.2.1 dL_law_273 rfl (lv_at hl 0 rfl) ?_
  refine lv_iload_n F.1 F.2.1 dL_law_274 rfl (lv_at hl 3 rfl) ?_
  refine gv_iconst F dL_law_275 ?_
  refine gv_iadd F dL_law_276 ?_
  refine gv_sld F hX hbl hbA hS hL ⟨by omega, by omega⟩ dL_law_277 ?_
  refine gc_VI (As := [.int (iI (sv xs (i + 1))), .int (iI (sv xs (i + 2)))]) (wn := fun u : AR => wGh cy aO aL aN aT aK aI o rw rf1 lg sg N T K I ++ wMd cy am o2 ss mm im wa le ro u fa nu) F hK hA hP hD hS (gP_right hP) (gD_right hD) (fun u H1 hk h1 _ => gJ_right hP hD hk h1 rfl) (c_X4_question l D cy am o2 ss mm im wa le ro re fa nu (sv xs (i + 1)) (sv xs (i + 2)) _ h) (cwV 2 F.2.2.2.2 (gG_V k917 k918 k919 k67 k920) rfl rfl rfl hd_X4_question ⟨Nat.le_of_ble_eq_true rfl, Nat.le_of_ble_eq_true rfl⟩) rfl rfl dL_law_278 rfl rfl hl.1 (Nat.le_of_ble_eq_true rfl) ⟨Nat.le_of_ble_eq_true rfl, Nat.le_of_ble_eq_true rfl⟩ (fun r2 u H locs h hP hD hS => ?_)
  obtain ⟨re1, rfl⟩ : ∃ z, z = u := ⟨_, rfl⟩
  try dsimp only at h hP hD
  refine lv_icmp_eq (tgt := 1126) F.1 F.2.1 dL_law_281 (by decide) (fun _ => ?_) (fun c9 => absurd (by rw [h.1]) c9)
  exact ih o rw rf1 lg sg N T K I o2 ss mm im wa le ro re1 fa nu H locs ls h.2 hP hD hS hl
set_option maxHeartbeats 4000000 in
set_option maxRecDepth 20000 in
theorem lw_group {p : Program} {l : Launch} {e : Env} {s : State} {m : MethodId} {below : List Frame} {meth : Method} {c : Code} {b L : Nat} {xs : Nat → Int32} {D : va_G} {cy : ClassId} {kS vS : Nat} {aO aL aN aT aK aI am : Nat → Nat} {o : AR} {rw : AR} {rf : AR} {lg : AR} {sg : AR} {N : MS} {T : MS} {K : MS} {I : MS} {o2 : AR} {ss : AR} {mm : AR} {im : AR} {wa : AR} {le : AR} {ro : AR} {re : AR} {fa : AR} {nu : AR} (F : CallFix p m c cL_law 4 s #[Value.ref b] gT RL) (hX : va_X b L xs s s.heap) (hbl : b < s.heap.size) (hL : L ≤ 2048) (hK : va_K D vwCl [(cy, .int)] s) (hG : gStr kS vS (fun q : Nat => s.heap.size ≤ q) s s.heap) (i : Int) (hi : 0 ≤ i ∧ i + 3 < L) (ih : ∀ (o : AR) (rw : AR) (rf : AR) (lg : AR) (sg : AR) (N : MS) (T : MS) (K : MS) (I : MS) (o2 : AR) (ss : AR) (mm : AR) (im : AR) (wa : AR) (le : AR) (ro : AR) (re : AR) (fa : AR) (nu : AR) (H : Heap) (locs : List Loc) (ls : Array Slot), gInv o rw rf lg sg N T K I o2 ss mm im wa le ro re fa nu → va_P D vwCl (wGh cy aO aL aN aT aK aI o rw rf lg sg N T K I ++ wMd cy am o2 ss mm im wa le ro re fa nu) H → va_D (fun q : Nat => s.heap.size ≤ q) (wGh cy aO aL aN aT aK aI o rw rf lg sg N T K I ++ wMd cy am o2 ss mm im wa le ro re fa nu) → va_S (fun q : Nat => s.heap.size ≤ q) s.heap H locs → lv_has ls 4 [(0, .ref b), (1, .ref (aO 0)), (2, .ref (am 0)), (3, .int (iI i))] → W p l e room_1 s m #[Value.ref b] below meth c H locs 75 1865 (lw_Z below #[Value.ref b] s) (F0 m 1126 ls [])) {H : Heap} {locs : List Loc} {ls : Array Slot} (hI : gInv o rw rf lg sg N T K I o2 ss mm im wa le ro re fa nu) (hP : va_P D vwCl (wGh cy aO aL aN aT aK aI o rw rf lg sg N T K I ++ wMd cy am o2 ss mm im wa le ro re fa nu) H) (hD : va_D (fun q : Nat => s.heap.size ≤ q) (wGh cy aO aL aN aT aK aI o rw rf lg sg N T K I ++ wMd cy am o2 ss mm im wa le ro re fa nu)) (hS : va_S (fun q : Nat => s.heap.size ≤ q) s.heap H locs) (hl : lv_has ls 4 [(0, .ref b), (1, .ref (aO 0)), (2, .ref (am 0)), (3, .int (iI i))]) : W p l e room_1 s m #[Value.ref b] below meth c H locs 75 1865 (lw_Z below #[Value.ref b] s) (F0 m 286 ls []) := by
  have hA : ∀ q : Nat, s.heap.size ≤ q → (fun q : Nat => s.heap.size ≤ q) q := fun _ h => h
  have hbA : ¬ (fun q : Nat => s.heap.size ≤ q) b := Nat.not_le.mpr hbl
  have h := op_group hI (sv xs (i + 1)) (sv xs (i + 2)) (gR_toInt _) (gR_toInt _)
  refine lv_aload_n F.1 F.2.1 dL_law_286 rfl (lv_at hl 1 rfl) ?_
  refine lv_aload_n F.1 F.2.1 dL_law_287 rfl (lv_at hl 0 rfl) ?_
  refine lv_iload_n F.1 F.2.1 dL_law_288 rfl (lv_at hl 3 rfl) ?_
  refine gv_iconst F dL_law_289 ?_
  refine gv_iadd F dL_law_290 ?_
  refine gv_sld F hX hbl hbA hS hL ⟨by omega, by omega⟩ dL_law_291 ?_
  refine lv_aload_n F.1 F.2.1 dL_law_292 rfl (lv_at hl 0 rfl) ?_
  refine lv_iload_n F.1 F.2.1 dL_law_293 rfl (lv_at hl 3 rfl) ?_
  refine gv_iconst F dL_law_294 ?_
  refine gv_iadd F dL_law_295 ?_
  refine gv_sld F hX hbl hbA hS hL ⟨by omega, by omega⟩ dL_law_296 ?_
  refine gc_VI (As := [.int (iI (sv xs (i + 1))), .int (iI (sv xs (i + 2)))]) (wn := fun u : AR => wGh cy aO aL aN aT aK aI o rw u lg sg N T K I ++ wMd cy am o2 ss mm im wa le ro re fa nu) F hK hA hP hD hS (gP_left hP) (gD_left hD) (fun u H1 hk h1 _ => gJ_left hP hD hk h1 gh_adr) (c_X3_group l D cy aO aL aN aT aK aI o rw rf lg sg N T K I (sv xs (i + 1)) (sv xs (i + 2)) _ h) (cwV 2 F.2.2.2.2 (gG_V k492 k493 k494 k61 k495) rfl rfl rfl hd_X3_group ⟨Nat.le_of_ble_eq_true rfl, Nat.le_of_ble_eq_true rfl⟩) rfl rfl dL_law_297 rfl rfl hl.1 (Nat.le_of_ble_eq_true rfl) ⟨Nat.le_of_ble_eq_true rfl, Nat.le_of_ble_eq_true rfl⟩ (fun r u H locs h hP hD hS => ?_)
  obtain ⟨rf1, rfl⟩ : ∃ z, z = u := ⟨_, rfl⟩
  try dsimp only at h hP hD
  refine lv_aload_n F.1 F.2.1 dL_law_300 rfl (lv_at hl 2 rfl) ?_
  refine lv_aload_n F.1 F.2.1 dL_law_301 rfl (lv_at hl 0 rfl) ?_
  refine lv_iload_n F.1 F.2.1 dL_law_302 rfl (lv_at hl 3 rfl) ?_
  refine gv_iconst F dL_law_303 ?_
  refine gv_iadd F dL_law_304 ?_
  refine gv_sld F hX hbl hbA hS hL ⟨by omega, by omega⟩ dL_law_305 ?_
  refine lv_aload_n F.1 F.2.1 dL_law_306 rfl (lv_at hl 0 rfl) ?_
  refine lv_iload_n F.1 F.2.1 dL_law_307 rfl (lv_at hl 3 rfl) ?_
  refine gv_iconst F dL_law_308 ?_
  refine gv_iadd F dL_law_309 ?_
  refine gv_sld F hX hbl hbA hS hL ⟨by omega, by omega⟩ dL_law_310 ?_
  refine gc_VI (As := [.int (iI (sv xs (i + 1))), .int (iI (sv xs (i + 2)))]) (wn := fun u : AR => wGh cy aO aL aN aT aK aI o rw rf1 lg sg N T K I ++ wMd cy am o2 ss mm im wa le ro u fa nu) F hK hA hP hD hS (gP_right hP) (gD_right hD) (fun u H1 hk h1 _ => gJ_right hP hD hk h1 rfl) (c_X4_group l D cy am o2 ss mm im wa le ro re fa nu (sv xs (i + 1)) (sv xs (i + 2)) _ h) (cwV 2 F.2.2.2.2 (gG_V k921 k922 k923 k67 k924) rfl rfl rfl hd_X4_group ⟨Nat.le_of_ble_eq_true rfl, Nat.le_of_ble_eq_true rfl⟩) rfl rfl dL_law_311 rfl rfl hl.1 (Nat.le_of_ble_eq_true rfl) ⟨Nat.le_of_ble_eq_true rfl, Nat.le_of_ble_eq_true rfl⟩ (fun r2 u H locs h hP hD hS => ?_)
  obtain ⟨re1, rfl⟩ : ∃ z, z = u := ⟨_, rfl⟩
  try dsimp only at h hP hD
  refine lv_icmp_eq (tgt := 1126) F.1 F.2.1 dL_law_314 (by decide) (fun _ => ?_) (fun c9 => absurd (by rw [h.1]) c9)
  exact ih o rw rf1 lg sg N T K I o2 ss mm im wa le ro re1 fa nu H locs ls h.2 hP hD hS hl
set_option maxHeartbeats 4000000 in
set_option maxRecDepth 20000 in
theorem lw_sheet {p : Program} {l : Launch} {e : Env} {s : State} {m : MethodId} {below : List Frame} {meth : Method} {c : Code} {b L : Nat} {xs : Nat → Int32} {D : va_G} {cy : ClassId} {kS vS : Nat} {aO aL aN aT aK aI am : Nat → Nat} {o : AR} {rw : AR} {rf : AR} {lg : AR} {sg : AR} {N : MS} {T : MS} {K : MS} {I : MS} {o2 : AR} {ss : AR} {mm : AR} {im : AR} {wa : AR} {le : AR} {ro : AR} {re : AR} {fa : AR} {nu : AR} (F : CallFix p m c cL_law 4 s #[Value.ref b] gT RL) (hX : va_X b L xs s s.heap) (hbl : b < s.heap.size) (hL : L ≤ 2048) (hK : va_K D vwCl [(cy, .int)] s) (hG : gStr kS vS (fun q : Nat => s.heap.size ≤ q) s s.heap) (i : Int) (hi : 0 ≤ i ∧ i + 3 < L) (ih : ∀ (o : AR) (rw : AR) (rf : AR) (lg : AR) (sg : AR) (N : MS) (T : MS) (K : MS) (I : MS) (o2 : AR) (ss : AR) (mm : AR) (im : AR) (wa : AR) (le : AR) (ro : AR) (re : AR) (fa : AR) (nu : AR) (H : Heap) (locs : List Loc) (ls : Array Slot), gInv o rw rf lg sg N T K I o2 ss mm im wa le ro re fa nu → va_P D vwCl (wGh cy aO aL aN aT aK aI o rw rf lg sg N T K I ++ wMd cy am o2 ss mm im wa le ro re fa nu) H → va_D (fun q : Nat => s.heap.size ≤ q) (wGh cy aO aL aN aT aK aI o rw rf lg sg N T K I ++ wMd cy am o2 ss mm im wa le ro re fa nu) → va_S (fun q : Nat => s.heap.size ≤ q) s.heap H locs → lv_has ls 4 [(0, .ref b), (1, .ref (aO 0)), (2, .ref (am 0)), (3, .int (iI i))] → W p l e room_1 s m #[Value.ref b] below meth c H locs 75 1865 (lw_Z below #[Value.ref b] s) (F0 m 1126 ls [])) {H : Heap} {locs : List Loc} {ls : Array Slot} (hI : gInv o rw rf lg sg N T K I o2 ss mm im wa le ro re fa nu) (hP : va_P D vwCl (wGh cy aO aL aN aT aK aI o rw rf lg sg N T K I ++ wMd cy am o2 ss mm im wa le ro re fa nu) H) (hD : va_D (fun q : Nat => s.heap.size ≤ q) (wGh cy aO aL aN aT aK aI o rw rf lg sg N T K I ++ wMd cy am o2 ss mm im wa le ro re fa nu)) (hS : va_S (fun q : Nat => s.heap.size ≤ q) s.heap H locs) (hl : lv_has ls 4 [(0, .ref b), (1, .ref (aO 0)), (2, .ref (am 0)), (3, .int (iI i))]) : W p l e room_1 s m #[Value.ref b] below meth c H locs 75 1865 (lw_Z below #[Value.ref b] s) (F0 m 319 ls []) := by
  have hA : ∀ q : Nat, s.heap.size ≤ q → (fun q : Nat => s.heap.size ≤ q) q := fun _ h => h
  have hbA : ¬ (fun q : Nat => s.heap.size ≤ q) b := Nat.not_le.mpr hbl
  have h := op_sheet hI (sv xs (i + 1)) (sv xs (i + 2)) (gR_toInt _) (gR_toInt _)
  refine lv_aload_n F.1 F.2.1 dL_law_319 rfl (lv_at hl 1 rfl) ?_
  refine lv_aload_n F.1 F.2.1 dL_law_320 rfl (lv_at hl 0 rfl) ?_
  refine lv_iload_n F.1 F.2.1 dL_law_321 rfl (lv_at hl 3 rfl) ?_
  refine gv_iconst F dL_law_322 ?_
  refine gv_iadd F dL_law_323 ?_
  refine gv_sld F hX hbl hbA hS hL ⟨by omega, by omega⟩ dL_law_324 ?_
  refine lv_aload_n F.1 F.2.1 dL_law_325 rfl (lv_at hl 0 rfl) ?_
  refine lv_iload_n F.1 F.2.1 dL_law_326 rfl (lv_at hl 3 rfl) ?_
  refine gv_iconst F dL_law_327 ?_
  refine gv_iadd F dL_law_328 ?_
  refine gv_sld F hX hbl hbA hS hL ⟨by omega, by omega⟩ dL_law_329 ?_
  refine gc_VI (As := [.int (iI (sv xs (i + 1))), .int (iI (sv xs (i + 2)))]) (wn := fun u : AR => wGh cy aO aL aN aT aK aI o rw u lg sg N T K I ++ wMd cy am o2 ss mm im wa le ro re fa nu) F hK hA hP hD hS (gP_left hP) (gD_left hD) (fun u H1 hk h1 _ => gJ_left hP hD hk h1 gh_adr) (c_X3_sheet l D cy aO aL aN aT aK aI o rw rf lg sg N T K I (sv xs (i + 1)) (sv xs (i + 2)) _ h) (cwV 2 F.2.2.2.2 (gG_V k497 k498 k499 k61 k500) rfl rfl rfl hd_X3_sheet ⟨Nat.le_of_ble_eq_true rfl, Nat.le_of_ble_eq_true rfl⟩) rfl rfl dL_law_330 rfl rfl hl.1 (Nat.le_of_ble_eq_true rfl) ⟨Nat.le_of_ble_eq_true rfl, Nat.le_of_ble_eq_true rfl⟩ (fun r u H locs h hP hD hS => ?_)
  obtain ⟨rf1, rfl⟩ : ∃ z, z = u := ⟨_, rfl⟩
  try dsimp only at h hP hD
  refine lv_aload_n F.1 F.2.1 dL_law_333 rfl (lv_at hl 2 rfl) ?_
  refine lv_aload_n F.1 F.2.1 dL_law_334 rfl (lv_at hl 0 rfl) ?_
  refine lv_iload_n F.1 F.2.1 dL_law_335 rfl (lv_at hl 3 rfl) ?_
  refine gv_iconst F dL_law_336 ?_
  refine gv_iadd F dL_law_337 ?_
  refine gv_sld F hX hbl hbA hS hL ⟨by omega, by omega⟩ dL_law_338 ?_
  refine lv_aload_n F.1 F.2.1 dL_law_339 rfl (lv_at hl 0 rfl) ?_
  refine lv_iload_n F.1 F.2.1 dL_law_340 rfl (lv_at hl 3 rfl) ?_
  refine gv_iconst F dL_law_341 ?_
  refine gv_iadd F dL_law_342 ?_
  refine gv_sld F hX hbl hbA hS hL ⟨by omega, by omega⟩ dL_law_343 ?_
  refine gc_VI (As := [.int (iI (sv xs (i + 1))), .int (iI (sv xs (i + 2)))]) (wn := fun u : AR => wGh cy aO aL aN aT aK aI o rw rf1 lg sg N T K I ++ wMd cy am o2 ss mm im wa le ro u fa nu) F hK hA hP hD hS (gP_right hP) (gD_right hD) (fun u H1 hk h1 _ => gJ_right hP hD hk h1 rfl) (c_X4_sheet l D cy am o2 ss mm im wa le ro re fa nu (sv xs (i + 1)) (sv xs (i + 2)) _ h) (cwV 2 F.2.2.2.2 (gG_V k925 k926 k927 k67 k928) rfl rfl rfl hd_X4_sheet ⟨Nat.le_of_ble_eq_true rfl, Nat.le_of_ble_eq_true rfl⟩) rfl rfl dL_law_344 rfl rfl hl.1 (Nat.le_of_ble_eq_true rfl) ⟨Nat.le_of_ble_eq_true rfl, Nat.le_of_ble_eq_true rfl⟩ (fun r2 u H locs h hP hD hS => ?_)
  obtain ⟨re1, rfl⟩ : ∃ z, z = u := ⟨_, rfl⟩
  try dsimp only at h hP hD
  refine lv_icmp_eq (tgt := 1126) F.1 F.2.1 dL_law_347 (by decide) (fun _ => ?_) (fun c9 => absurd (by rw [h.1]) c9)
  exact ih o rw rf1 lg sg N T K I o2 ss mm im wa le ro re1 fa nu H locs ls h.2 hP hD hS hl
set_option maxHeartbeats 4000000 in
set_option maxRecDepth 20000 in
theorem lw_opens {p : Program} {l : Launch} {e : Env} {s : State} {m : MethodId} {below : List Frame} {meth : Method} {c : Code} {b L : Nat} {xs : Nat → Int32} {D : va_G} {cy : ClassId} {kS vS : Nat} {aO aL aN aT aK aI am : Nat → Nat} {o : AR} {rw : AR} {rf : AR} {lg : AR} {sg : AR} {N : MS} {T : MS} {K : MS} {I : MS} {o2 : AR} {ss : AR} {mm : AR} {im : AR} {wa : AR} {le : AR} {ro : AR} {re : AR} {fa : AR} {nu : AR} (F : CallFix p m c cL_law 4 s #[Value.ref b] gT RL) (hX : va_X b L xs s s.heap) (hbl : b < s.heap.size) (hL : L ≤ 2048) (hK : va_K D vwCl [(cy, .int)] s) (hG : gStr kS vS (fun q : Nat => s.heap.size ≤ q) s s.heap) (i : Int) (hi : 0 ≤ i ∧ i + 3 < L) (ih : ∀ (o : AR) (rw : AR) (rf : AR) (lg : AR) (sg : AR) (N : MS) (T : MS) (K : MS) (I : MS) (o2 : AR) (ss : AR) (mm : AR) (im : AR) (wa : AR) (le : AR) (ro : AR) (re : AR) (fa : AR) (nu : AR) (H : Heap) (locs : List Loc) (ls : Array Slot), gInv o rw rf lg sg N T K I o2 ss mm im wa le ro re fa nu → va_P D vwCl (wGh cy aO aL aN aT aK aI o rw rf lg sg N T K I ++ wMd cy am o2 ss mm im wa le ro re fa nu) H → va_D (fun q : Nat => s.heap.size ≤ q) (wGh cy aO aL aN aT aK aI o rw rf lg sg N T K I ++ wMd cy am o2 ss mm im wa le ro re fa nu) → va_S (fun q : Nat => s.heap.size ≤ q) s.heap H locs → lv_has ls 4 [(0, .ref b), (1, .ref (aO 0)), (2, .ref (am 0)), (3, .int (iI i))] → W p l e room_1 s m #[Value.ref b] below meth c H locs 75 1865 (lw_Z below #[Value.ref b] s) (F0 m 1126 ls [])) {H : Heap} {locs : List Loc} {ls : Array Slot} (hI : gInv o rw rf lg sg N T K I o2 ss mm im wa le ro re fa nu) (hP : va_P D vwCl (wGh cy aO aL aN aT aK aI o rw rf lg sg N T K I ++ wMd cy am o2 ss mm im wa le ro re fa nu) H) (hD : va_D (fun q : Nat => s.heap.size ≤ q) (wGh cy aO aL aN aT aK aI o rw rf lg sg N T K I ++ wMd cy am o2 ss mm im wa le ro re fa nu)) (hS : va_S (fun q : Nat => s.heap.size ≤ q) s.heap H locs) (hl : lv_has ls 4 [(0, .ref b), (1, .ref (aO 0)), (2, .ref (am 0)), (3, .int (iI i))]) : W p l e room_1 s m #[Value.ref b] below meth c H locs 75 1865 (lw_Z below #[Value.ref b] s) (F0 m 352 ls []) := by
  have hA : ∀ q : Nat, s.heap.size ≤ q → (fun q : Nat => s.heap.size ≤ q) q := fun _ h => h
  have hbA : ¬ (fun q : Nat => s.heap.size ≤ q) b := Nat.not_le.mpr hbl
  have h := op_opens hI (sv xs (i + 1)) (sv xs (i + 2)) (gR_toInt _) (gR_toInt _)
  refine lv_aload_n F.1 F.2.1 dL_law_352 rfl (lv_at hl 1 rfl) ?_
  refine lv_aload_n F.1 F.2.1 dL_law_353 rfl (lv_at hl 0 rfl) ?_
  refine lv_iload_n F.1 F.2.1 dL_law_354 rfl (lv_at hl 3 rfl) ?_
  refine gv_iconst F dL_law_355 ?_
  refine gv_iadd F dL_law_356 ?_
  refine gv_sld F hX hbl hbA hS hL ⟨by omega, by omega⟩ dL_law_357 ?_
  refine lv_aload_n F.1 F.2.1 dL_law_358 rfl (lv_at hl 0 rfl) ?_
  refine lv_iload_n F.1 F.2.1 dL_law_359 rfl (lv_at hl 3 rfl) ?_
  refine gv_iconst F dL_law_360 ?_
  refine gv_iadd F dL_law_361 ?_
  refine gv_sld F hX hbl hbA hS hL ⟨by omega, by omega⟩ dL_law_362 ?_
  refine gc_VI (As := [.int (iI (sv xs (i + 1))), .int (iI (sv xs (i + 2)))]) (wn := fun u : AR × MS => wGh cy aO aL aN aT aK aI o rw u.1 lg sg u.2 T K I ++ wMd cy am o2 ss mm im wa le ro re fa nu) F hK hA hP hD hS (gP_left hP) (gD_left hD) (fun u H1 hk h1 _ => gJ_left hP hD hk h1 gh_adr) (c_X3_opens l D cy aO aL aN aT aK aI o rw rf lg sg N T K I (sv xs (i + 1)) (sv xs (i + 2)) _ h) (cwV 2 F.2.2.2.2 (gG_V k502 k503 k504 k61 k505) rfl rfl rfl hd_X3_opens ⟨Nat.le_of_ble_eq_true rfl, Nat.le_of_ble_eq_true rfl⟩) rfl rfl dL_law_363 rfl rfl hl.1 (Nat.le_of_ble_eq_true rfl) ⟨Nat.le_of_ble_eq_true rfl, Nat.le_of_ble_eq_true rfl⟩ (fun r u H locs h hP hD hS => ?_)
  obtain ⟨rf1, N1⟩ := u
  try dsimp only at h hP hD
  refine lv_aload_n F.1 F.2.1 dL_law_366 rfl (lv_at hl 2 rfl) ?_
  refine lv_aload_n F.1 F.2.1 dL_law_367 rfl (lv_at hl 0 rfl) ?_
  refine lv_iload_n F.1 F.2.1 dL_law_368 rfl (lv_at hl 3 rfl) ?_
  refine gv_iconst F dL_law_369 ?_
  refine gv_iadd F dL_law_370 ?_
  refine gv_sld F hX hbl hbA hS hL ⟨by omega, by omega⟩ dL_law_371 ?_
  refine lv_aload_n F.1 F.2.1 dL_law_372 rfl (lv_at hl 0 rfl) ?_
  refine lv_iload_n F.1 F.2.1 dL_law_373 rfl (lv_at hl 3 rfl) ?_
  refine gv_iconst F dL_law_374 ?_
  refine gv_iadd F dL_law_375 ?_
  refine gv_sld F hX hbl hbA hS hL ⟨by omega, by omega⟩ dL_law_376 ?_
  refine gc_VI (As := [.int (iI (sv xs (i + 1))), .int (iI (sv xs (i + 2)))]) (wn := fun u : AR × AR => wGh cy aO aL aN aT aK aI o rw rf1 lg sg N1 T K I ++ wMd cy am o2 u.1 mm im wa le ro u.2 fa nu) F hK hA hP hD hS (gP_right hP) (gD_right hD) (fun u H1 hk h1 _ => gJ_right hP hD hk h1 rfl) (c_X4_opens l D cy am o2 ss mm im wa le ro re fa nu (sv xs (i + 1)) (sv xs (i + 2)) _ h) (cwV 2 F.2.2.2.2 (gG_V k929 k930 k931 k67 k932) rfl rfl rfl hd_X4_opens ⟨Nat.le_of_ble_eq_true rfl, Nat.le_of_ble_eq_true rfl⟩) rfl rfl dL_law_377 rfl rfl hl.1 (Nat.le_of_ble_eq_true rfl) ⟨Nat.le_of_ble_eq_true rfl, Nat.le_of_ble_eq_true rfl⟩ (fun r2 u H locs h hP hD hS => ?_)
  obtain ⟨ss1, re1⟩ := u
  try dsimp only at h hP hD
  refine lv_icmp_eq (tgt := 1126) F.1 F.2.1 dL_law_380 (by decide) (fun _ => ?_) (fun c9 => absurd (by rw [h.1]) c9)
  exact ih o rw rf1 lg sg N1 T K I o2 ss1 mm im wa le ro re1 fa nu H locs ls h.2 hP hD hS hl
set_option maxHeartbeats 4000000 in
set_option maxRecDepth 20000 in
theorem lw_put {p : Program} {l : Launch} {e : Env} {s : State} {m : MethodId} {below : List Frame} {meth : Method} {c : Code} {b L : Nat} {xs : Nat → Int32} {D : va_G} {cy : ClassId} {kS vS : Nat} {aO aL aN aT aK aI am : Nat → Nat} {o : AR} {rw : AR} {rf : AR} {lg : AR} {sg : AR} {N : MS} {T : MS} {K : MS} {I : MS} {o2 : AR} {ss : AR} {mm : AR} {im : AR} {wa : AR} {le : AR} {ro : AR} {re : AR} {fa : AR} {nu : AR} (F : CallFix p m c cL_law 4 s #[Value.ref b] gT RL) (hX : va_X b L xs s s.heap) (hbl : b < s.heap.size) (hL : L ≤ 2048) (hK : va_K D vwCl [(cy, .int)] s) (hG : gStr kS vS (fun q : Nat => s.heap.size ≤ q) s s.heap) (i : Int) (hi : 0 ≤ i ∧ i + 3 < L) (ih : ∀ (o : AR) (rw : AR) (rf : AR) (lg : AR) (sg : AR) (N : MS) (T : MS) (K : MS) (I : MS) (o2 : AR) (ss : AR) (mm : AR) (im : AR) (wa : AR) (le : AR) (ro : AR) (re : AR) (fa : AR) (nu : AR) (H : Heap) (locs : List Loc) (ls : Array Slot), gInv o rw rf lg sg N T K I o2 ss mm im wa le ro re fa nu → va_P D vwCl (wGh cy aO aL aN aT aK aI o rw rf lg sg N T K I ++ wMd cy am o2 ss mm im wa le ro re fa nu) H → va_D (fun q : Nat => s.heap.size ≤ q) (wGh cy aO aL aN aT aK aI o rw rf lg sg N T K I ++ wMd cy am o2 ss mm im wa le ro re fa nu) → va_S (fun q : Nat => s.heap.size ≤ q) s.heap H locs → lv_has ls 4 [(0, .ref b), (1, .ref (aO 0)), (2, .ref (am 0)), (3, .int (iI i))] → W p l e room_1 s m #[Value.ref b] below meth c H locs 75 1865 (lw_Z below #[Value.ref b] s) (F0 m 1126 ls [])) {H : Heap} {locs : List Loc} {ls : Array Slot} (hI : gInv o rw rf lg sg N T K I o2 ss mm im wa le ro re fa nu) (hP : va_P D vwCl (wGh cy aO aL aN aT aK aI o rw rf lg sg N T K I ++ wMd cy am o2 ss mm im wa le ro re fa nu) H) (hD : va_D (fun q : Nat => s.heap.size ≤ q) (wGh cy aO aL aN aT aK aI o rw rf lg sg N T K I ++ wMd cy am o2 ss mm im wa le ro re fa nu)) (hS : va_S (fun q : Nat => s.heap.size ≤ q) s.heap H locs) (hl : lv_has ls 4 [(0, .ref b), (1, .ref (aO 0)), (2, .ref (am 0)), (3, .int (iI i))]) : W p l e room_1 s m #[Value.ref b] below meth c H locs 75 1865 (lw_Z below #[Value.ref b] s) (F0 m 385 ls []) := by
  have hA : ∀ q : Nat, s.heap.size ≤ q → (fun q : Nat => s.heap.size ≤ q) q := fun _ h => h
  have hbA : ¬ (fun q : Nat => s.heap.size ≤ q) b := Nat.not_le.mpr hbl
  have h := op_put hI (sv xs (i + 1)) (sv xs (i + 2)) (gR_toInt _) (gR_toInt _)
  refine lv_aload_n F.1 F.2.1 dL_law_385 rfl (lv_at hl 1 rfl) ?_
  refine lv_aload_n F.1 F.2.1 dL_law_386 rfl (lv_at hl 0 rfl) ?_
  refine lv_iload_n F.1 F.2.1 dL_law_387 rfl (lv_at hl 3 rfl) ?_
  refine gv_iconst F dL_law_388 ?_
  refine gv_iadd F dL_law_389 ?_
  refine gv_sld F hX hbl hbA hS hL ⟨by omega, by omega⟩ dL_law_390 ?_
  refine lv_aload_n F.1 F.2.1 dL_law_391 rfl (lv_at hl 0 rfl) ?_
  refine lv_iload_n F.1 F.2.1 dL_law_392 rfl (lv_at hl 3 rfl) ?_
  refine gv_iconst F dL_law_393 ?_
  refine gv_iadd F dL_law_394 ?_
  refine gv_sld F hX hbl hbA hS hL ⟨by omega, by omega⟩ dL_law_395 ?_
  refine gc_VI (As := [.int (iI (sv xs (i + 1))), .int (iI (sv xs (i + 2)))]) (wn := fun u : AR × MS => wGh cy aO aL aN aT aK aI o rw u.1 lg sg u.2 T K I ++ wMd cy am o2 ss mm im wa le ro re fa nu) F hK hA hP hD hS (gP_left hP) (gD_left hD) (fun u H1 hk h1 _ => gJ_left hP hD hk h1 gh_adr) (c_X3_put l D cy aO aL aN aT aK aI o rw rf lg sg N T K I (sv xs (i + 1)) (sv xs (i + 2)) _ h) (cwV 2 F.2.2.2.2 (gG_V k507 k508 k509 k61 k510) rfl rfl rfl hd_X3_put ⟨Nat.le_of_ble_eq_true rfl, Nat.le_of_ble_eq_true rfl⟩) rfl rfl dL_law_396 rfl rfl hl.1 (Nat.le_of_ble_eq_true rfl) ⟨Nat.le_of_ble_eq_true rfl, Nat.le_of_ble_eq_true rfl⟩ (fun r u H locs h hP hD hS => ?_)
  obtain ⟨rf1, N1⟩ := u
  try dsimp only at h hP hD
  refine lv_aload_n F.1 F.2.1 dL_law_399 rfl (lv_at hl 2 rfl) ?_
  refine lv_aload_n F.1 F.2.1 dL_law_400 rfl (lv_at hl 0 rfl) ?_
  refine lv_iload_n F.1 F.2.1 dL_law_401 rfl (lv_at hl 3 rfl) ?_
  refine gv_iconst F dL_law_402 ?_
  refine gv_iadd F dL_law_403 ?_
  refine gv_sld F hX hbl hbA hS hL ⟨by omega, by omega⟩ dL_law_404 ?_
  refine lv_aload_n F.1 F.2.1 dL_law_405 rfl (lv_at hl 0 rfl) ?_
  refine lv_iload_n F.1 F.2.1 dL_law_406 rfl (lv_at hl 3 rfl) ?_
  refine gv_iconst F dL_law_407 ?_
  refine gv_iadd F dL_law_408 ?_
  refine gv_sld F hX hbl hbA hS hL ⟨by omega, by omega⟩ dL_law_409 ?_
  refine gc_VI (As := [.int (iI (sv xs (i + 1))), .int (iI (sv xs (i + 2)))]) (wn := fun u : AR × AR => wGh cy aO aL aN aT aK aI o rw rf1 lg sg N1 T K I ++ wMd cy am o2 u.1 mm im wa le ro u.2 fa nu) F hK hA hP hD hS (gP_right hP) (gD_right hD) (fun u H1 hk h1 _ => gJ_right hP hD hk h1 rfl) (c_X4_put l D cy am o2 ss mm im wa le ro re fa nu (sv xs (i + 1)) (sv xs (i + 2)) _ h) (cwV 2 F.2.2.2.2 (gG_V k933 k934 k935 k67 k936) rfl rfl rfl hd_X4_put ⟨Nat.le_of_ble_eq_true rfl, Nat.le_of_ble_eq_true rfl⟩) rfl rfl dL_law_410 rfl rfl hl.1 (Nat.le_of_ble_eq_true rfl) ⟨Nat.le_of_ble_eq_true rfl, Nat.le_of_ble_eq_true rfl⟩ (fun r2 u H locs h hP hD hS => ?_)
  obtain ⟨ss1, re1⟩ := u
  try dsimp only at h hP hD
  refine lv_icmp_eq (tgt := 1126) F.1 F.2.1 dL_law_413 (by decide) (fun _ => ?_) (fun c9 => absurd (by rw [h.1]) c9)
  exact ih o rw rf1 lg sg N1 T K I o2 ss1 mm im wa le ro re1 fa nu H locs ls h.2 hP hD hS hl
set_option maxHeartbeats 4000000 in
set_option maxRecDepth 20000 in
theorem lw_start {p : Program} {l : Launch} {e : Env} {s : State} {m : MethodId} {below : List Frame} {meth : Method} {c : Code} {b L : Nat} {xs : Nat → Int32} {D : va_G} {cy : ClassId} {kS vS : Nat} {aO aL aN aT aK aI am : Nat → Nat} {o : AR} {rw : AR} {rf : AR} {lg : AR} {sg : AR} {N : MS} {T : MS} {K : MS} {I : MS} {o2 : AR} {ss : AR} {mm : AR} {im : AR} {wa : AR} {le : AR} {ro : AR} {re : AR} {fa : AR} {nu : AR} (F : CallFix p m c cL_law 4 s #[Value.ref b] gT RL) (hX : va_X b L xs s s.heap) (hbl : b < s.heap.size) (hL : L ≤ 2048) (hK : va_K D vwCl [(cy, .int)] s) (hG : gStr kS vS (fun q : Nat => s.heap.size ≤ q) s s.heap) (i : Int) (hi : 0 ≤ i ∧ i + 3 < L) (ih : ∀ (o : AR) (rw : AR) (rf : AR) (lg : AR) (sg : AR) (N : MS) (T : MS) (K : MS) (I : MS) (o2 : AR) (ss : AR) (mm : AR) (im : AR) (wa : AR) (le : AR) (ro : AR) (re : AR) (fa : AR) (nu : AR) (H : Heap) (locs : List Loc) (ls : Array Slot), gInv o rw rf lg sg N T K I o2 ss mm im wa le ro re fa nu → va_P D vwCl (wGh cy aO aL aN aT aK aI o rw rf lg sg N T K I ++ wMd cy am o2 ss mm im wa le ro re fa nu) H → va_D (fun q : Nat => s.heap.size ≤ q) (wGh cy aO aL aN aT aK aI o rw rf lg sg N T K I ++ wMd cy am o2 ss mm im wa le ro re fa nu) → va_S (fun q : Nat => s.heap.size ≤ q) s.heap H locs → lv_has ls 4 [(0, .ref b), (1, .ref (aO 0)), (2, .ref (am 0)), (3, .int (iI i))] → W p l e room_1 s m #[Value.ref b] below meth c H locs 75 1865 (lw_Z below #[Value.ref b] s) (F0 m 1126 ls [])) {H : Heap} {locs : List Loc} {ls : Array Slot} (hI : gInv o rw rf lg sg N T K I o2 ss mm im wa le ro re fa nu) (hP : va_P D vwCl (wGh cy aO aL aN aT aK aI o rw rf lg sg N T K I ++ wMd cy am o2 ss mm im wa le ro re fa nu) H) (hD : va_D (fun q : Nat => s.heap.size ≤ q) (wGh cy aO aL aN aT aK aI o rw rf lg sg N T K I ++ wMd cy am o2 ss mm im wa le ro re fa nu)) (hS : va_S (fun q : Nat => s.heap.size ≤ q) s.heap H locs) (hl : lv_has ls 4 [(0, .ref b), (1, .ref (aO 0)), (2, .ref (am 0)), (3, .int (iI i))]) : W p l e room_1 s m #[Value.ref b] below meth c H locs 75 1865 (lw_Z below #[Value.ref b] s) (F0 m 418 ls []) := by
  have hA : ∀ q : Nat, s.heap.size ≤ q → (fun q : Nat => s.heap.size ≤ q) q := fun _ h => h
  have hbA : ¬ (fun q : Nat => s.heap.size ≤ q) b := Nat.not_le.mpr hbl
  have h := op_start hI (sv xs (i + 1)) (sv xs (i + 2)) (gR_toInt _) (gR_toInt _)
  refine lv_aload_n F.1 F.2.1 dL_law_418 rfl (lv_at hl 1 rfl) ?_
  refine lv_aload_n F.1 F.2.1 dL_law_419 rfl (lv_at hl 0 rfl) ?_
  refine lv_iload_n F.1 F.2.1 dL_law_420 rfl (lv_at hl 3 rfl) ?_
  refine gv_iconst F dL_law_421 ?_
  refine gv_iadd F dL_law_422 ?_
  refine gv_sld F hX hbl hbA hS hL ⟨by omega, by omega⟩ dL_law_423 ?_
  refine lv_aload_n F.1 F.2.1 dL_law_424 rfl (lv_at hl 0 rfl) ?_
  refine lv_iload_n F.1 F.2.1 dL_law_425 rfl (lv_at hl 3 rfl) ?_
  refine gv_iconst F dL_law_426 ?_
  refine gv_iadd F dL_law_427 ?_
  refine gv_sld F hX hbl hbA hS hL ⟨by omega, by omega⟩ dL_law_428 ?_
  refine gc_VI (As := [.int (iI (sv xs (i + 1))), .int (iI (sv xs (i + 2)))]) (wn := fun u : AR × MS => wGh cy aO aL aN aT aK aI o rw u.1 lg sg u.2 T K I ++ wMd cy am o2 ss mm im wa le ro re fa nu) F hK hA hP hD hS (gP_left hP) (gD_left hD) (fun u H1 hk h1 _ => gJ_left hP hD hk h1 gh_adr) (c_X3_start l D cy aO aL aN aT aK aI o rw rf lg sg N T K I (sv xs (i + 1)) (sv xs (i + 2)) _ h) (cwV 2 F.2.2.2.2 (gG_V k511 k512 k513 k61 k514) rfl rfl rfl hd_X3_start ⟨Nat.le_of_ble_eq_true rfl, Nat.le_of_ble_eq_true rfl⟩) rfl rfl dL_law_429 rfl rfl hl.1 (Nat.le_of_ble_eq_true rfl) ⟨Nat.le_of_ble_eq_true rfl, Nat.le_of_ble_eq_true rfl⟩ (fun r u H locs h hP hD hS => ?_)
  obtain ⟨rf1, N1⟩ := u
  try dsimp only at h hP hD
  refine lv_aload_n F.1 F.2.1 dL_law_432 rfl (lv_at hl 2 rfl) ?_
  refine lv_aload_n F.1 F.2.1 dL_law_433 rfl (lv_at hl 0 rfl) ?_
  refine lv_iload_n F.1 F.2.1 dL_law_434 rfl (lv_at hl 3 rfl) ?_
  refine gv_iconst F dL_law_435 ?_
  refine gv_iadd F dL_law_436 ?_
  refine gv_sld F hX hbl hbA hS hL ⟨by omega, by omega⟩ dL_law_437 ?_
  refine lv_aload_n F.1 F.2.1 dL_law_438 rfl (lv_at hl 0 rfl) ?_
  refine lv_iload_n F.1 F.2.1 dL_law_439 rfl (lv_at hl 3 rfl) ?_
  refine gv_iconst F dL_law_440 ?_
  refine gv_iadd F dL_law_441 ?_
  refine gv_sld F hX hbl hbA hS hL ⟨by omega, by omega⟩ dL_law_442 ?_
  refine gc_VI (As := [.int (iI (sv xs (i + 1))), .int (iI (sv xs (i + 2)))]) (wn := fun u : AR × AR => wGh cy aO aL aN aT aK aI o rw rf1 lg sg N1 T K I ++ wMd cy am o2 u.1 mm im wa le ro u.2 fa nu) F hK hA hP hD hS (gP_right hP) (gD_right hD) (fun u H1 hk h1 _ => gJ_right hP hD hk h1 rfl) (c_X4_start l D cy am o2 ss mm im wa le ro re fa nu (sv xs (i + 1)) (sv xs (i + 2)) _ h) (cwV 2 F.2.2.2.2 (gG_V k937 k938 k939 k67 k940) rfl rfl rfl hd_X4_start ⟨Nat.le_of_ble_eq_true rfl, Nat.le_of_ble_eq_true rfl⟩) rfl rfl dL_law_443 rfl rfl hl.1 (Nat.le_of_ble_eq_true rfl) ⟨Nat.le_of_ble_eq_true rfl, Nat.le_of_ble_eq_true rfl⟩ (fun r2 u H locs h hP hD hS => ?_)
  obtain ⟨ss1, re1⟩ := u
  try dsimp only at h hP hD
  refine lv_icmp_eq (tgt := 1126) F.1 F.2.1 dL_law_446 (by decide) (fun _ => ?_) (fun c9 => absurd (by rw [h.1]) c9)
  exact ih o rw rf1 lg sg N1 T K I o2 ss1 mm im wa le ro re1 fa nu H locs ls h.2 hP hD hS hl
set_option maxHeartbeats 4000000 in
set_option maxRecDepth 20000 in
theorem lw_write {p : Program} {l : Launch} {e : Env} {s : State} {m : MethodId} {below : List Frame} {meth : Method} {c : Code} {b L : Nat} {xs : Nat → Int32} {D : va_G} {cy : ClassId} {kS vS : Nat} {aO aL aN aT aK aI am : Nat → Nat} {o : AR} {rw : AR} {rf : AR} {lg : AR} {sg : AR} {N : MS} {T : MS} {K : MS} {I : MS} {o2 : AR} {ss : AR} {mm : AR} {im : AR} {wa : AR} {le : AR} {ro : AR} {re : AR} {fa : AR} {nu : AR} (F : CallFix p m c cL_law 4 s #[Value.ref b] gT RL) (hX : va_X b L xs s s.heap) (hbl : b < s.heap.size) (hL : L ≤ 2048) (hK : va_K D vwCl [(cy, .int)] s) (hG : gStr kS vS (fun q : Nat => s.heap.size ≤ q) s s.heap) (i : Int) (hi : 0 ≤ i ∧ i + 3 < L) (ih : ∀ (o : AR) (rw : AR) (rf : AR) (lg : AR) (sg : AR) (N : MS) (T : MS) (K : MS) (I : MS) (o2 : AR) (ss : AR) (mm : AR) (im : AR) (wa : AR) (le : AR) (ro : AR) (re : AR) (fa : AR) (nu : AR) (H : Heap) (locs : List Loc) (ls : Array Slot), gInv o rw rf lg sg N T K I o2 ss mm im wa le ro re fa nu → va_P D vwCl (wGh cy aO aL aN aT aK aI o rw rf lg sg N T K I ++ wMd cy am o2 ss mm im wa le ro re fa nu) H → va_D (fun q : Nat => s.heap.size ≤ q) (wGh cy aO aL aN aT aK aI o rw rf lg sg N T K I ++ wMd cy am o2 ss mm im wa le ro re fa nu) → va_S (fun q : Nat => s.heap.size ≤ q) s.heap H locs → lv_has ls 4 [(0, .ref b), (1, .ref (aO 0)), (2, .ref (am 0)), (3, .int (iI i))] → W p l e room_1 s m #[Value.ref b] below meth c H locs 75 1865 (lw_Z below #[Value.ref b] s) (F0 m 1126 ls [])) {H : Heap} {locs : List Loc} {ls : Array Slot} (hI : gInv o rw rf lg sg N T K I o2 ss mm im wa le ro re fa nu) (hP : va_P D vwCl (wGh cy aO aL aN aT aK aI o rw rf lg sg N T K I ++ wMd cy am o2 ss mm im wa le ro re fa nu) H) (hD : va_D (fun q : Nat => s.heap.size ≤ q) (wGh cy aO aL aN aT aK aI o rw rf lg sg N T K I ++ wMd cy am o2 ss mm im wa le ro re fa nu)) (hS : va_S (fun q : Nat => s.heap.size ≤ q) s.heap H locs) (hl : lv_has ls 4 [(0, .ref b), (1, .ref (aO 0)), (2, .ref (am 0)), (3, .int (iI i))]) : W p l e room_1 s m #[Value.ref b] below meth c H locs 75 1865 (lw_Z below #[Value.ref b] s) (F0 m 451 ls []) := by
  have hA : ∀ q : Nat, s.heap.size ≤ q → (fun q : Nat => s.heap.size ≤ q) q := fun _ h => h
  have hbA : ¬ (fun q : Nat => s.heap.size ≤ q) b := Nat.not_le.mpr hbl
  have h := op_write hI (sv xs (i + 1)) (sv xs (i + 2)) (sv xs (i + 3)) (gR_toInt _) (gR_toInt _) (gR_toInt _)
  refine lv_aload_n F.1 F.2.1 dL_law_451 rfl (lv_at hl 1 rfl) ?_
  refine lv_aload_n F.1 F.2.1 dL_law_452 rfl (lv_at hl 0 rfl) ?_
  refine lv_iload_n F.1 F.2.1 dL_law_453 rfl (lv_at hl 3 rfl) ?_
  refine gv_iconst F dL_law_454 ?_
  refine gv_iadd F dL_law_455 ?_
  refine gv_sld F hX hbl hbA hS hL ⟨by omega, by omega⟩ dL_law_456 ?_
  refine lv_aload_n F.1 F.2.1 dL_law_457 rfl (lv_at hl 0 rfl) ?_
  refine lv_iload_n F.1 F.2.1 dL_law_458 rfl (lv_at hl 3 rfl) ?_
  refine gv_iconst F dL_law_459 ?_
  refine gv_iadd F dL_law_460 ?_
  refine gv_sld F hX hbl hbA hS hL ⟨by omega, by omega⟩ dL_law_461 ?_
  refine lv_aload_n F.1 F.2.1 dL_law_462 rfl (lv_at hl 0 rfl) ?_
  refine lv_iload_n F.1 F.2.1 dL_law_463 rfl (lv_at hl 3 rfl) ?_
  refine gv_iconst F dL_law_464 ?_
  refine gv_iadd F dL_law_465 ?_
  refine gv_sld F hX hbl hbA hS hL ⟨by omega, by omega⟩ dL_law_466 ?_
  refine gc_VI (As := [.int (iI (sv xs (i + 1))), .int (iI (sv xs (i + 2))), .int (iI (sv xs (i + 3)))]) (wn := fun u : AR × MS => wGh cy aO aL aN aT aK aI o rw u.1 lg sg u.2 T K I ++ wMd cy am o2 ss mm im wa le ro re fa nu) F hK hA hP hD hS (gP_left hP) (gD_left hD) (fun u H1 hk h1 _ => gJ_left hP hD hk h1 gh_adr) (c_X3_write l D cy aO aL aN aT aK aI o rw rf lg sg N T K I (sv xs (i + 1)) (sv xs (i + 2)) (sv xs (i + 3)) _ h) (cwV 3 F.2.2.2.2 (gG_V k515 k516 k517 k61 k518) rfl rfl rfl hd_X3_write ⟨Nat.le_of_ble_eq_true rfl, Nat.le_of_ble_eq_true rfl⟩) rfl rfl dL_law_467 rfl rfl hl.1 (Nat.le_of_ble_eq_true rfl) ⟨Nat.le_of_ble_eq_true rfl, Nat.le_of_ble_eq_true rfl⟩ (fun r u H locs h hP hD hS => ?_)
  obtain ⟨rf1, N1⟩ := u
  try dsimp only at h hP hD
  refine lv_aload_n F.1 F.2.1 dL_law_470 rfl (lv_at hl 2 rfl) ?_
  refine lv_aload_n F.1 F.2.1 dL_law_471 rfl (lv_at hl 0 rfl) ?_
  refine lv_iload_n F.1 F.2.1 dL_law_472 rfl (lv_at hl 3 rfl) ?_
  refine gv_iconst F dL_law_473 ?_
  refine gv_iadd F dL_law_474 ?_
  refine gv_sld F hX hbl hbA hS hL ⟨by omega, by omega⟩ dL_law_475 ?_
  refine lv_aload_n F.1 F.2.1 dL_law_476 rfl (lv_at hl 0 rfl) ?_
  refine lv_iload_n F.1 F.2.1 dL_law_477 rfl (lv_at hl 3 rfl) ?_
  refine gv_iconst F dL_law_478 ?_
  refine gv_iadd F dL_law_479 ?_
  refine gv_sld F hX hbl hbA hS hL ⟨by omega, by omega⟩ dL_law_480 ?_
  refine lv_aload_n F.1 F.2.1 dL_law_481 rfl (lv_at hl 0 rfl) ?_
  refine lv_iload_n F.1 F.2.1 dL_law_482 rfl (lv_at hl 3 rfl) ?_
  refine gv_iconst F dL_law_483 ?_
  refine gv_iadd F dL_law_484 ?_
  refine gv_sld F hX hbl hbA hS hL ⟨by omega, by omega⟩ dL_law_485 ?_
  refine gc_VI (As := [.int (iI (sv xs (i + 1))), .int (iI (sv xs (i + 2))), .int (iI (sv xs (i + 3)))]) (wn := fun u : AR × AR => wGh cy aO aL aN aT aK aI o rw rf1 lg sg N1 T K I ++ wMd cy am o2 u.1 mm im wa le ro u.2 fa nu) F hK hA hP hD hS (gP_right hP) (gD_right hD) (fun u H1 hk h1 _ => gJ_right hP hD hk h1 rfl) (c_X4_write l D cy am o2 ss mm im wa le ro re fa nu (sv xs (i + 1)) (sv xs (i + 2)) (sv xs (i + 3)) _ h) (cwV 3 F.2.2.2.2 (gG_V k941 k942 k943 k67 k944) rfl rfl rfl hd_X4_write ⟨Nat.le_of_ble_eq_true rfl, Nat.le_of_ble_eq_true rfl⟩) rfl rfl dL_law_486 rfl rfl hl.1 (Nat.le_of_ble_eq_true rfl) ⟨Nat.le_of_ble_eq_true rfl, Nat.le_of_ble_eq_true rfl⟩ (fun r2 u H locs h hP hD hS => ?_)
  obtain ⟨ss1, re1⟩ := u
  try dsimp only at h hP hD
  refine lv_icmp_eq (tgt := 1126) F.1 F.2.1 dL_law_489 (by decide) (fun _ => ?_) (fun c9 => absurd (by rw [h.1]) c9)
  exact ih o rw rf1 lg sg N1 T K I o2 ss1 mm im wa le ro re1 fa nu H locs ls h.2 hP hD hS hl
set_option maxHeartbeats 4000000 in
set_option maxRecDepth 20000 in
theorem lw_minutes {p : Program} {l : Launch} {e : Env} {s : State} {m : MethodId} {below : List Frame} {meth : Method} {c : Code} {b L : Nat} {xs : Nat → Int32} {D : va_G} {cy : ClassId} {kS vS : Nat} {aO aL aN aT aK aI am : Nat → Nat} {o : AR} {rw : AR} {rf : AR} {lg : AR} {sg : AR} {N : MS} {T : MS} {K : MS} {I : MS} {o2 : AR} {ss : AR} {mm : AR} {im : AR} {wa : AR} {le : AR} {ro : AR} {re : AR} {fa : AR} {nu : AR} (F : CallFix p m c cL_law 4 s #[Value.ref b] gT RL) (hX : va_X b L xs s s.heap) (hbl : b < s.heap.size) (hL : L ≤ 2048) (hK : va_K D vwCl [(cy, .int)] s) (hG : gStr kS vS (fun q : Nat => s.heap.size ≤ q) s s.heap) (i : Int) (hi : 0 ≤ i ∧ i + 3 < L) (ih : ∀ (o : AR) (rw : AR) (rf : AR) (lg : AR) (sg : AR) (N : MS) (T : MS) (K : MS) (I : MS) (o2 : AR) (ss : AR) (mm : AR) (im : AR) (wa : AR) (le : AR) (ro : AR) (re : AR) (fa : AR) (nu : AR) (H : Heap) (locs : List Loc) (ls : Array Slot), gInv o rw rf lg sg N T K I o2 ss mm im wa le ro re fa nu → va_P D vwCl (wGh cy aO aL aN aT aK aI o rw rf lg sg N T K I ++ wMd cy am o2 ss mm im wa le ro re fa nu) H → va_D (fun q : Nat => s.heap.size ≤ q) (wGh cy aO aL aN aT aK aI o rw rf lg sg N T K I ++ wMd cy am o2 ss mm im wa le ro re fa nu) → va_S (fun q : Nat => s.heap.size ≤ q) s.heap H locs → lv_has ls 4 [(0, .ref b), (1, .ref (aO 0)), (2, .ref (am 0)), (3, .int (iI i))] → W p l e room_1 s m #[Value.ref b] below meth c H locs 75 1865 (lw_Z below #[Value.ref b] s) (F0 m 1126 ls [])) {H : Heap} {locs : List Loc} {ls : Array Slot} (hI : gInv o rw rf lg sg N T K I o2 ss mm im wa le ro re fa nu) (hP : va_P D vwCl (wGh cy aO aL aN aT aK aI o rw rf lg sg N T K I ++ wMd cy am o2 ss mm im wa le ro re fa nu) H) (hD : va_D (fun q : Nat => s.heap.size ≤ q) (wGh cy aO aL aN aT aK aI o rw rf lg sg N T K I ++ wMd cy am o2 ss mm im wa le ro re fa nu)) (hS : va_S (fun q : Nat => s.heap.size ≤ q) s.heap H locs) (hl : lv_has ls 4 [(0, .ref b), (1, .ref (aO 0)), (2, .ref (am 0)), (3, .int (iI i))]) : W p l e room_1 s m #[Value.ref b] below meth c H locs 75 1865 (lw_Z below #[Value.ref b] s) (F0 m 494 ls []) := by
  have hA : ∀ q : Nat, s.heap.size ≤ q → (fun q : Nat => s.heap.size ≤ q) q := fun _ h => h
  have hbA : ¬ (fun q : Nat => s.heap.size ≤ q) b := Nat.not_le.mpr hbl
  have h := op_minutes hI (sv xs (i + 1)) (gR_toInt _)
  refine lv_aload_n F.1 F.2.1 dL_law_494 rfl (lv_at hl 1 rfl) ?_
  refine lv_aload_n F.1 F.2.1 dL_law_495 rfl (lv_at hl 0 rfl) ?_
  refine lv_iload_n F.1 F.2.1 dL_law_496 rfl (lv_at hl 3 rfl) ?_
  refine gv_iconst F dL_law_497 ?_
  refine gv_iadd F dL_law_498 ?_
  refine gv_sld F hX hbl hbA hS hL ⟨by omega, by omega⟩ dL_law_499 ?_
  refine gc_VI (As := [.int (iI (sv xs (i + 1)))]) (wn := fun u : AR × MS => wGh cy aO aL aN aT aK aI o rw u.1 lg sg u.2 T K I ++ wMd cy am o2 ss mm im wa le ro re fa nu) F hK hA hP hD hS (gP_left hP) (gD_left hD) (fun u H1 hk h1 _ => gJ_left hP hD hk h1 gh_adr) (c_X3_minutes l D cy aO aL aN aT aK aI o rw rf lg sg N T K I (sv xs (i + 1)) _ h) (cwV 1 F.2.2.2.2 (gG_V k519 k520 k521 k61 k522) rfl rfl rfl hd_X3_minutes ⟨Nat.le_of_ble_eq_true rfl, Nat.le_of_ble_eq_true rfl⟩) rfl rfl dL_law_500 rfl rfl hl.1 (Nat.le_of_ble_eq_true rfl) ⟨Nat.le_of_ble_eq_true rfl, Nat.le_of_ble_eq_true rfl⟩ (fun r u H locs h hP hD hS => ?_)
  obtain ⟨rf1, N1⟩ := u
  try dsimp only at h hP hD
  refine lv_aload_n F.1 F.2.1 dL_law_503 rfl (lv_at hl 2 rfl) ?_
  refine lv_aload_n F.1 F.2.1 dL_law_504 rfl (lv_at hl 0 rfl) ?_
  refine lv_iload_n F.1 F.2.1 dL_law_505 rfl (lv_at hl 3 rfl) ?_
  refine gv_iconst F dL_law_506 ?_
  refine gv_iadd F dL_law_507 ?_
  refine gv_sld F hX hbl hbA hS hL ⟨by omega, by omega⟩ dL_law_508 ?_
  refine gc_VI (As := [.int (iI (sv xs (i + 1)))]) (wn := fun u : AR × AR × AR => wGh cy aO aL aN aT aK aI o rw rf1 lg sg N1 T K I ++ wMd cy am o2 u.1 mm im wa le ro u.2.1 u.2.2 nu) F hK hA hP hD hS (gP_right hP) (gD_right hD) (fun u H1 hk h1 _ => gJ_right hP hD hk h1 rfl) (c_X4_minutes l D cy am o2 ss mm im wa le ro re fa nu (sv xs (i + 1)) _ h) (cwV 1 F.2.2.2.2 (gG_V k945 k946 k947 k67 k948) rfl rfl rfl hd_X4_minutes ⟨Nat.le_of_ble_eq_true rfl, Nat.le_of_ble_eq_true rfl⟩) rfl rfl dL_law_509 rfl rfl hl.1 (Nat.le_of_ble_eq_true rfl) ⟨Nat.le_of_ble_eq_true rfl, Nat.le_of_ble_eq_true rfl⟩ (fun r2 u H locs h hP hD hS => ?_)
  obtain ⟨ss1, re1, fa1⟩ := u
  try dsimp only at h hP hD
  refine lv_icmp_eq (tgt := 1126) F.1 F.2.1 dL_law_512 (by decide) (fun _ => ?_) (fun c9 => absurd (by rw [h.1]) c9)
  exact ih o rw rf1 lg sg N1 T K I o2 ss1 mm im wa le ro re1 fa1 nu H locs ls h.2 hP hD hS hl
set_option maxHeartbeats 4000000 in
set_option maxRecDepth 20000 in
theorem lw_behind {p : Program} {l : Launch} {e : Env} {s : State} {m : MethodId} {below : List Frame} {meth : Method} {c : Code} {b L : Nat} {xs : Nat → Int32} {D : va_G} {cy : ClassId} {kS vS : Nat} {aO aL aN aT aK aI am : Nat → Nat} {o : AR} {rw : AR} {rf : AR} {lg : AR} {sg : AR} {N : MS} {T : MS} {K : MS} {I : MS} {o2 : AR} {ss : AR} {mm : AR} {im : AR} {wa : AR} {le : AR} {ro : AR} {re : AR} {fa : AR} {nu : AR} (F : CallFix p m c cL_law 4 s #[Value.ref b] gT RL) (hX : va_X b L xs s s.heap) (hbl : b < s.heap.size) (hL : L ≤ 2048) (hK : va_K D vwCl [(cy, .int)] s) (hG : gStr kS vS (fun q : Nat => s.heap.size ≤ q) s s.heap) (i : Int) (hi : 0 ≤ i ∧ i + 3 < L) (ih : ∀ (o : AR) (rw : AR) (rf : AR) (lg : AR) (sg : AR) (N : MS) (T : MS) (K : MS) (I : MS) (o2 : AR) (ss : AR) (mm : AR) (im : AR) (wa : AR) (le : AR) (ro : AR) (re : AR) (fa : AR) (nu : AR) (H : Heap) (locs : List Loc) (ls : Array Slot), gInv o rw rf lg sg N T K I o2 ss mm im wa le ro re fa nu → va_P D vwCl (wGh cy aO aL aN aT aK aI o rw rf lg sg N T K I ++ wMd cy am o2 ss mm im wa le ro re fa nu) H → va_D (fun q : Nat => s.heap.size ≤ q) (wGh cy aO aL aN aT aK aI o rw rf lg sg N T K I ++ wMd cy am o2 ss mm im wa le ro re fa nu) → va_S (fun q : Nat => s.heap.size ≤ q) s.heap H locs → lv_has ls 4 [(0, .ref b), (1, .ref (aO 0)), (2, .ref (am 0)), (3, .int (iI i))] → W p l e room_1 s m #[Value.ref b] below meth c H locs 75 1865 (lw_Z below #[Value.ref b] s) (F0 m 1126 ls [])) {H : Heap} {locs : List Loc} {ls : Array Slot} (hI : gInv o rw rf lg sg N T K I o2 ss mm im wa le ro re fa nu) (hP : va_P D vwCl (wGh cy aO aL aN aT aK aI o rw rf lg sg N T K I ++ wMd cy am o2 ss mm im wa le ro re fa nu) H) (hD : va_D (fun q : Nat => s.heap.size ≤ q) (wGh cy aO aL aN aT aK aI o rw rf lg sg N T K I ++ wMd cy am o2 ss mm im wa le ro re fa nu)) (hS : va_S (fun q : Nat => s.heap.size ≤ q) s.heap H locs) (hl : lv_has ls 4 [(0, .ref b), (1, .ref (aO 0)), (2, .ref (am 0)), (3, .int (iI i))]) : W p l e room_1 s m #[Value.ref b] below meth c H locs 75 1865 (lw_Z below #[Value.ref b] s) (F0 m 517 ls []) := by
  have hA : ∀ q : Nat, s.heap.size ≤ q → (fun q : Nat => s.heap.size ≤ q) q := fun _ h => h
  have hbA : ¬ (fun q : Nat => s.heap.size ≤ q) b := Nat.not_le.mpr hbl
  have h := op_behind hI (sv xs (i + 1)) (sv xs (i + 2)) (sv xs (i + 3)) (gR_toInt _) (gR_toInt _) (gR_toInt _)
  refine lv_aload_n F.1 F.2.1 dL_law_517 rfl (lv_at hl 1 rfl) ?_
  refine lv_aload_n F.1 F.2.1 dL_law_518 rfl (lv_at hl 0 rfl) ?_
  refine lv_iload_n F.1 F.2.1 dL_law_519 rfl (lv_at hl 3 rfl) ?_
  refine gv_iconst F dL_law_520 ?_
  refine gv_iadd F dL_law_521 ?_
  refine gv_sld F hX hbl hbA hS hL ⟨by omega, by omega⟩ dL_law_522 ?_
  refine lv_aload_n F.1 F.2.1 dL_law_523 rfl (lv_at hl 0 rfl) ?_
  refine lv_iload_n F.1 F.2.1 dL_law_524 rfl (lv_at hl 3 rfl) ?_
  refine gv_iconst F dL_law_525 ?_
  refine gv_iadd F dL_law_526 ?_
  refine gv_sld F hX hbl hbA hS hL ⟨by omega, by omega⟩ dL_law_527 ?_
  refine lv_aload_n F.1 F.2.1 dL_law_528 rfl (lv_at hl 0 rfl) ?_
  refine lv_iload_n F.1 F.2.1 dL_law_529 rfl (lv_at hl 3 rfl) ?_
  refine gv_iconst F dL_law_530 ?_
  refine gv_iadd F dL_law_531 ?_
  refine gv_sld F hX hbl hbA hS hL ⟨by omega, by omega⟩ dL_law_532 ?_
  refine gc_VI (As := [.int (iI (sv xs (i + 1))), .int (iI (sv xs (i + 2))), .int (iI (sv xs (i + 3)))]) (wn := fun u : AR × MS => wGh cy aO aL aN aT aK aI o rw u.1 lg sg N u.2 K I ++ wMd cy am o2 ss mm im wa le ro re fa nu) F hK hA hP hD hS (gP_left hP) (gD_left hD) (fun u H1 hk h1 _ => gJ_left hP hD hk h1 gh_adr) (c_X3_behind l D cy aO aL aN aT aK aI o rw rf lg sg N T K I (sv xs (i + 1)) (sv xs (i + 2)) (sv xs (i + 3)) _ h) (cwV 3 F.2.2.2.2 (gG_V k531 k532 k533 k61 k534) rfl rfl rfl hd_X3_behind ⟨Nat.le_of_ble_eq_true rfl, Nat.le_of_ble_eq_true rfl⟩) rfl rfl dL_law_533 rfl rfl hl.1 (Nat.le_of_ble_eq_true rfl) ⟨Nat.le_of_ble_eq_true rfl, Nat.le_of_ble_eq_true rfl⟩ (fun r u H locs h hP hD hS => ?_)
  obtain ⟨rf1, T1⟩ := u
  try dsimp only at h hP hD
  refine lv_aload_n F.1 F.2.1 dL_law_536 rfl (lv_at hl 2 rfl) ?_
  refine lv_aload_n F.1 F.2.1 dL_law_537 rfl (lv_at hl 0 rfl) ?_
  refine lv_iload_n F.1 F.2.1 dL_law_538 rfl (lv_at hl 3 rfl) ?_
  refine gv_iconst F dL_law_539 ?_
  refine gv_iadd F dL_law_540 ?_
  refine gv_sld F hX hbl hbA hS hL ⟨by omega, by omega⟩ dL_law_541 ?_
  refine lv_aload_n F.1 F.2.1 dL_law_542 rfl (lv_at hl 0 rfl) ?_
  refine lv_iload_n F.1 F.2.1 dL_law_543 rfl (lv_at hl 3 rfl) ?_
  refine gv_iconst F dL_law_544 ?_
  refine gv_iadd F dL_law_545 ?_
  refine gv_sld F hX hbl hbA hS hL ⟨by omega, by omega⟩ dL_law_546 ?_
  refine lv_aload_n F.1 F.2.1 dL_law_547 rfl (lv_at hl 0 rfl) ?_
  refine lv_iload_n F.1 F.2.1 dL_law_548 rfl (lv_at hl 3 rfl) ?_
  refine gv_iconst F dL_law_549 ?_
  refine gv_iadd F dL_law_550 ?_
  refine gv_sld F hX hbl hbA hS hL ⟨by omega, by omega⟩ dL_law_551 ?_
  refine gc_VI (As := [.int (iI (sv xs (i + 1))), .int (iI (sv xs (i + 2))), .int (iI (sv xs (i + 3)))]) (wn := fun u : AR × AR × AR => wGh cy aO aL aN aT aK aI o rw rf1 lg sg N T1 K I ++ wMd cy am o2 ss u.1 im wa le ro u.2.1 u.2.2 nu) F hK hA hP hD hS (gP_right hP) (gD_right hD) (fun u H1 hk h1 _ => gJ_right hP hD hk h1 rfl) (c_X4_behind l D cy am o2 ss mm im wa le ro re fa nu (sv xs (i + 1)) (sv xs (i + 2)) (sv xs (i + 3)) _ h) (cwV 3 F.2.2.2.2 (gG_V k955 k956 k957 k67 k958) rfl rfl rfl hd_X4_behind ⟨Nat.le_of_ble_eq_true rfl, Nat.le_of_ble_eq_true rfl⟩) rfl rfl dL_law_552 rfl rfl hl.1 (Nat.le_of_ble_eq_true rfl) ⟨Nat.le_of_ble_eq_true rfl, Nat.le_of_ble_eq_true rfl⟩ (fun r2 u H locs h hP hD hS => ?_)
  obtain ⟨mm1, re1, fa1⟩ := u
  try dsimp only at h hP hD
  refine lv_icmp_eq (tgt := 1126) F.1 F.2.1 dL_law_555 (by decide) (fun _ => ?_) (fun c9 => absurd (by rw [h.1]) c9)
  exact ih o rw rf1 lg sg N T1 K I o2 ss mm1 im wa le ro re1 fa1 nu H locs ls h.2 hP hD hS hl
set_option maxHeartbeats 4000000 in
set_option maxRecDepth 20000 in
theorem lw_done {p : Program} {l : Launch} {e : Env} {s : State} {m : MethodId} {below : List Frame} {meth : Method} {c : Code} {b L : Nat} {xs : Nat → Int32} {D : va_G} {cy : ClassId} {kS vS : Nat} {aO aL aN aT aK aI am : Nat → Nat} {o : AR} {rw : AR} {rf : AR} {lg : AR} {sg : AR} {N : MS} {T : MS} {K : MS} {I : MS} {o2 : AR} {ss : AR} {mm : AR} {im : AR} {wa : AR} {le : AR} {ro : AR} {re : AR} {fa : AR} {nu : AR} (F : CallFix p m c cL_law 4 s #[Value.ref b] gT RL) (hX : va_X b L xs s s.heap) (hbl : b < s.heap.size) (hL : L ≤ 2048) (hK : va_K D vwCl [(cy, .int)] s) (hG : gStr kS vS (fun q : Nat => s.heap.size ≤ q) s s.heap) (i : Int) (hi : 0 ≤ i ∧ i + 3 < L) (ih : ∀ (o : AR) (rw : AR) (rf : AR) (lg : AR) (sg : AR) (N : MS) (T : MS) (K : MS) (I : MS) (o2 : AR) (ss : AR) (mm : AR) (im : AR) (wa : AR) (le : AR) (ro : AR) (re : AR) (fa : AR) (nu : AR) (H : Heap) (locs : List Loc) (ls : Array Slot), gInv o rw rf lg sg N T K I o2 ss mm im wa le ro re fa nu → va_P D vwCl (wGh cy aO aL aN aT aK aI o rw rf lg sg N T K I ++ wMd cy am o2 ss mm im wa le ro re fa nu) H → va_D (fun q : Nat => s.heap.size ≤ q) (wGh cy aO aL aN aT aK aI o rw rf lg sg N T K I ++ wMd cy am o2 ss mm im wa le ro re fa nu) → va_S (fun q : Nat => s.heap.size ≤ q) s.heap H locs → lv_has ls 4 [(0, .ref b), (1, .ref (aO 0)), (2, .ref (am 0)), (3, .int (iI i))] → W p l e room_1 s m #[Value.ref b] below meth c H locs 75 1865 (lw_Z below #[Value.ref b] s) (F0 m 1126 ls [])) {H : Heap} {locs : List Loc} {ls : Array Slot} (hI : gInv o rw rf lg sg N T K I o2 ss mm im wa le ro re fa nu) (hP : va_P D vwCl (wGh cy aO aL aN aT aK aI o rw rf lg sg N T K I ++ wMd cy am o2 ss mm im wa le ro re fa nu) H) (hD : va_D (fun q : Nat => s.heap.size ≤ q) (wGh cy aO aL aN aT aK aI o rw rf lg sg N T K I ++ wMd cy am o2 ss mm im wa le ro re fa nu)) (hS : va_S (fun q : Nat => s.heap.size ≤ q) s.heap H locs) (hl : lv_has ls 4 [(0, .ref b), (1, .ref (aO 0)), (2, .ref (am 0)), (3, .int (iI i))]) : W p l e room_1 s m #[Value.ref b] below meth c H locs 75 1865 (lw_Z below #[Value.ref b] s) (F0 m 560 ls []) := by
  have hA : ∀ q : Nat, s.heap.size ≤ q → (fun q : Nat => s.heap.size ≤ q) q := fun _ h => h
  have hbA : ¬ (fun q : Nat => s.heap.size ≤ q) b := Nat.not_le.mpr hbl
  have h := op_done hI (sv xs (i + 1)) (gR_toInt _)
  refine lv_aload_n F.1 F.2.1 dL_law_560 rfl (lv_at hl 1 rfl) ?_
  refine lv_aload_n F.1 F.2.1 dL_law_561 rfl (lv_at hl 0 rfl) ?_
  refine lv_iload_n F.1 F.2.1 dL_law_562 rfl (lv_at hl 3 rfl) ?_
  refine gv_iconst F dL_law_563 ?_
  refine gv_iadd F dL_law_564 ?_
  refine gv_sld F hX hbl hbA hS hL ⟨by omega, by omega⟩ dL_law_565 ?_
  refine gc_VI (As := [.int (iI (sv xs (i + 1)))]) (wn := fun u : AR × MS => wGh cy aO aL aN aT aK aI o rw u.1 lg sg N u.2 K I ++ wMd cy am o2 ss mm im wa le ro re fa nu) F hK hA hP hD hS (gP_left hP) (gD_left hD) (fun u H1 hk h1 _ => gJ_left hP hD hk h1 gh_adr) (c_X3_done l D cy aO aL aN aT aK aI o rw rf lg sg N T K I (sv xs (i + 1)) _ h) (cwV 1 F.2.2.2.2 (gG_V k560 k561 k562 k61 k563) rfl rfl rfl hd_X3_done ⟨Nat.le_of_ble_eq_true rfl, Nat.le_of_ble_eq_true rfl⟩) rfl rfl dL_law_566 rfl rfl hl.1 (Nat.le_of_ble_eq_true rfl) ⟨Nat.le_of_ble_eq_true rfl, Nat.le_of_ble_eq_true rfl⟩ (fun r u H locs h hP hD hS => ?_)
  obtain ⟨rf1, T1⟩ := u
  try dsimp only at h hP hD
  refine lv_aload_n F.1 F.2.1 dL_law_569 rfl (lv_at hl 2 rfl) ?_
  refine lv_aload_n F.1 F.2.1 dL_law_570 rfl (lv_at hl 0 rfl) ?_
  refine lv_iload_n F.1 F.2.1 dL_law_571 rfl (lv_at hl 3 rfl) ?_
  refine gv_iconst F dL_law_572 ?_
  refine gv_iadd F dL_law_573 ?_
  refine gv_sld F hX hbl hbA hS hL ⟨by omega, by omega⟩ dL_law_574 ?_
  refine gc_VI (As := [.int (iI (sv xs (i + 1)))]) (wn := fun u : AR × AR × AR => wGh cy aO aL aN aT aK aI o rw rf1 lg sg N T1 K I ++ wMd cy am o2 ss u.1 im wa le ro u.2.1 u.2.2 nu) F hK hA hP hD hS (gP_right hP) (gD_right hD) (fun u H1 hk h1 _ => gJ_right hP hD hk h1 rfl) (c_X4_done l D cy am o2 ss mm im wa le ro re fa nu (sv xs (i + 1)) _ h) (cwV 1 F.2.2.2.2 (gG_V k972 k973 k974 k67 k975) rfl rfl rfl hd_X4_done ⟨Nat.le_of_ble_eq_true rfl, Nat.le_of_ble_eq_true rfl⟩) rfl rfl dL_law_575 rfl rfl hl.1 (Nat.le_of_ble_eq_true rfl) ⟨Nat.le_of_ble_eq_true rfl, Nat.le_of_ble_eq_true rfl⟩ (fun r2 u H locs h hP hD hS => ?_)
  obtain ⟨mm1, re1, fa1⟩ := u
  try dsimp only at h hP hD
  refine lv_icmp_eq (tgt := 1126) F.1 F.2.1 dL_law_578 (by decide) (fun _ => ?_) (fun c9 => absurd (by rw [h.1]) c9)
  exact ih o rw rf1 lg sg N T1 K I o2 ss mm1 im wa le ro re1 fa1 nu H locs ls h.2 hP hD hS hl
set_option maxHeartbeats 4000000 in
set_option maxRecDepth 20000 in
theorem lw_ended {p : Program} {l : Launch} {e : Env} {s : State} {m : MethodId} {below : List Frame} {meth : Method} {c : Code} {b L : Nat} {xs : Nat → Int32} {D : va_G} {cy : ClassId} {kS vS : Nat} {aO aL aN aT aK aI am : Nat → Nat} {o : AR} {rw : AR} {rf : AR} {lg : AR} {sg : AR} {N : MS} {T : MS} {K : MS} {I : MS} {o2 : AR} {ss : AR} {mm : AR} {im : AR} {wa : AR} {le : AR} {ro : AR} {re : AR} {fa : AR} {nu : AR} (F : CallFix p m c cL_law 4 s #[Value.ref b] gT RL) (hX : va_X b L xs s s.heap) (hbl : b < s.heap.size) (hL : L ≤ 2048) (hK : va_K D vwCl [(cy, .int)] s) (hG : gStr kS vS (fun q : Nat => s.heap.size ≤ q) s s.heap) (i : Int) (hi : 0 ≤ i ∧ i + 3 < L) (ih : ∀ (o : AR) (rw : AR) (rf : AR) (lg : AR) (sg : AR) (N : MS) (T : MS) (K : MS) (I : MS) (o2 : AR) (ss : AR) (mm : AR) (im : AR) (wa : AR) (le : AR) (ro : AR) (re : AR) (fa : AR) (nu : AR) (H : Heap) (locs : List Loc) (ls : Array Slot), gInv o rw rf lg sg N T K I o2 ss mm im wa le ro re fa nu → va_P D vwCl (wGh cy aO aL aN aT aK aI o rw rf lg sg N T K I ++ wMd cy am o2 ss mm im wa le ro re fa nu) H → va_D (fun q : Nat => s.heap.size ≤ q) (wGh cy aO aL aN aT aK aI o rw rf lg sg N T K I ++ wMd cy am o2 ss mm im wa le ro re fa nu) → va_S (fun q : Nat => s.heap.size ≤ q) s.heap H locs → lv_has ls 4 [(0, .ref b), (1, .ref (aO 0)), (2, .ref (am 0)), (3, .int (iI i))] → W p l e room_1 s m #[Value.ref b] below meth c H locs 75 1865 (lw_Z below #[Value.ref b] s) (F0 m 1126 ls [])) {H : Heap} {locs : List Loc} {ls : Array Slot} (hI : gInv o rw rf lg sg N T K I o2 ss mm im wa le ro re fa nu) (hP : va_P D vwCl (wGh cy aO aL aN aT aK aI o rw rf lg sg N T K I ++ wMd cy am o2 ss mm im wa le ro re fa nu) H) (hD : va_D (fun q : Nat => s.heap.size ≤ q) (wGh cy aO aL aN aT aK aI o rw rf lg sg N T K I ++ wMd cy am o2 ss mm im wa le ro re fa nu)) (hS : va_S (fun q : Nat => s.heap.size ≤ q) s.heap H locs) (hl : lv_has ls 4 [(0, .ref b), (1, .ref (aO 0)), (2, .ref (am 0)), (3, .int (iI i))]) : W p l e room_1 s m #[Value.ref b] below meth c H locs 75 1865 (lw_Z below #[Value.ref b] s) (F0 m 583 ls []) := by
  have hA : ∀ q : Nat, s.heap.size ≤ q → (fun q : Nat => s.heap.size ≤ q) q := fun _ h => h
  have hbA : ¬ (fun q : Nat => s.heap.size ≤ q) b := Nat.not_le.mpr hbl
  have h := op_ended hI (sv xs (i + 1)) (gR_toInt _)
  refine lv_aload_n F.1 F.2.1 dL_law_583 rfl (lv_at hl 1 rfl) ?_
  refine lv_aload_n F.1 F.2.1 dL_law_584 rfl (lv_at hl 0 rfl) ?_
  refine lv_iload_n F.1 F.2.1 dL_law_585 rfl (lv_at hl 3 rfl) ?_
  refine gv_iconst F dL_law_586 ?_
  refine gv_iadd F dL_law_587 ?_
  refine gv_sld F hX hbl hbA hS hL ⟨by omega, by omega⟩ dL_law_588 ?_
  refine gc_VI (As := [.int (iI (sv xs (i + 1)))]) (wn := fun u : AR × MS => wGh cy aO aL aN aT aK aI o rw u.1 lg sg N u.2 K I ++ wMd cy am o2 ss mm im wa le ro re fa nu) F hK hA hP hD hS (gP_left hP) (gD_left hD) (fun u H1 hk h1 _ => gJ_left hP hD hk h1 gh_adr) (c_X3_ended l D cy aO aL aN aT aK aI o rw rf lg sg N T K I (sv xs (i + 1)) _ h) (cwV 1 F.2.2.2.2 (gG_V k576 k577 k578 k61 k579) rfl rfl rfl hd_X3_ended ⟨Nat.le_of_ble_eq_true rfl, Nat.le_of_ble_eq_true rfl⟩) rfl rfl dL_law_589 rfl rfl hl.1 (Nat.le_of_ble_eq_true rfl) ⟨Nat.le_of_ble_eq_true rfl, Nat.le_of_ble_eq_true rfl⟩ (fun r u H locs h hP hD hS => ?_)
  obtain ⟨rf1, T1⟩ := u
  try dsimp only at h hP hD
  refine lv_aload_n F.1 F.2.1 dL_law_592 rfl (lv_at hl 2 rfl) ?_
  refine lv_aload_n F.1 F.2.1 dL_law_593 rfl (lv_at hl 0 rfl) ?_
  refine lv_iload_n F.1 F.2.1 dL_law_594 rfl (lv_at hl 3 rfl) ?_
  refine gv_iconst F dL_law_595 ?_
  refine gv_iadd F dL_law_596 ?_
  refine gv_sld F hX hbl hbA hS hL ⟨by omega, by omega⟩ dL_law_597 ?_
  refine gc_VI (As := [.int (iI (sv xs (i + 1)))]) (wn := fun u : AR × AR × AR => wGh cy aO aL aN aT aK aI o rw rf1 lg sg N T1 K I ++ wMd cy am o2 ss u.1 im wa le ro u.2.1 u.2.2 nu) F hK hA hP hD hS (gP_right hP) (gD_right hD) (fun u H1 hk h1 _ => gJ_right hP hD hk h1 rfl) (c_X4_ended l D cy am o2 ss mm im wa le ro re fa nu (sv xs (i + 1)) _ h) (cwV 1 F.2.2.2.2 (gG_V k987 k988 k989 k67 k990) rfl rfl rfl hd_X4_ended ⟨Nat.le_of_ble_eq_true rfl, Nat.le_of_ble_eq_true rfl⟩) rfl rfl dL_law_598 rfl rfl hl.1 (Nat.le_of_ble_eq_true rfl) ⟨Nat.le_of_ble_eq_true rfl, Nat.le_of_ble_eq_true rfl⟩ (fun r2 u H locs h hP hD hS => ?_)
  obtain ⟨mm1, re1, fa1⟩ := u
  try dsimp only at h hP hD
  refine lv_icmp_eq (tgt := 1126) F.1 F.2.1 dL_law_601 (by decide) (fun _ => ?_) (fun c9 => absurd (by rw [h.1]) c9)
  exact ih o rw rf1 lg sg N T1 K I o2 ss mm1 im wa le ro re1 fa1 nu H locs ls h.2 hP hD hS hl
set_option maxHeartbeats 4000000 in
set_option maxRecDepth 20000 in
theorem lw_answer {p : Program} {l : Launch} {e : Env} {s : State} {m : MethodId} {below : List Frame} {meth : Method} {c : Code} {b L : Nat} {xs : Nat → Int32} {D : va_G} {cy : ClassId} {kS vS : Nat} {aO aL aN aT aK aI am : Nat → Nat} {o : AR} {rw : AR} {rf : AR} {lg : AR} {sg : AR} {N : MS} {T : MS} {K : MS} {I : MS} {o2 : AR} {ss : AR} {mm : AR} {im : AR} {wa : AR} {le : AR} {ro : AR} {re : AR} {fa : AR} {nu : AR} (F : CallFix p m c cL_law 4 s #[Value.ref b] gT RL) (hX : va_X b L xs s s.heap) (hbl : b < s.heap.size) (hL : L ≤ 2048) (hK : va_K D vwCl [(cy, .int)] s) (hG : gStr kS vS (fun q : Nat => s.heap.size ≤ q) s s.heap) (i : Int) (hi : 0 ≤ i ∧ i + 3 < L) (ih : ∀ (o : AR) (rw : AR) (rf : AR) (lg : AR) (sg : AR) (N : MS) (T : MS) (K : MS) (I : MS) (o2 : AR) (ss : AR) (mm : AR) (im : AR) (wa : AR) (le : AR) (ro : AR) (re : AR) (fa : AR) (nu : AR) (H : Heap) (locs : List Loc) (ls : Array Slot), gInv o rw rf lg sg N T K I o2 ss mm im wa le ro re fa nu → va_P D vwCl (wGh cy aO aL aN aT aK aI o rw rf lg sg N T K I ++ wMd cy am o2 ss mm im wa le ro re fa nu) H → va_D (fun q : Nat => s.heap.size ≤ q) (wGh cy aO aL aN aT aK aI o rw rf lg sg N T K I ++ wMd cy am o2 ss mm im wa le ro re fa nu) → va_S (fun q : Nat => s.heap.size ≤ q) s.heap H locs → lv_has ls 4 [(0, .ref b), (1, .ref (aO 0)), (2, .ref (am 0)), (3, .int (iI i))] → W p l e room_1 s m #[Value.ref b] below meth c H locs 75 1865 (lw_Z below #[Value.ref b] s) (F0 m 1126 ls [])) {H : Heap} {locs : List Loc} {ls : Array Slot} (hI : gInv o rw rf lg sg N T K I o2 ss mm im wa le ro re fa nu) (hP : va_P D vwCl (wGh cy aO aL aN aT aK aI o rw rf lg sg N T K I ++ wMd cy am o2 ss mm im wa le ro re fa nu) H) (hD : va_D (fun q : Nat => s.heap.size ≤ q) (wGh cy aO aL aN aT aK aI o rw rf lg sg N T K I ++ wMd cy am o2 ss mm im wa le ro re fa nu)) (hS : va_S (fun q : Nat => s.heap.size ≤ q) s.heap H locs) (hl : lv_has ls 4 [(0, .ref b), (1, .ref (aO 0)), (2, .ref (am 0)), (3, .int (iI i))]) : W p l e room_1 s m #[Value.ref b] below meth c H locs 75 1865 (lw_Z below #[Value.ref b] s) (F0 m 606 ls []) := by
  have hA : ∀ q : Nat, s.heap.size ≤ q → (fun q : Nat => s.heap.size ≤ q) q := fun _ h => h
  have hbA : ¬ (fun q : Nat => s.heap.size ≤ q) b := Nat.not_le.mpr hbl
  have h := op_answer hI (sv xs (i + 1)) (sv xs (i + 2)) (sv xs (i + 3)) (gR_toInt _) (gR_toInt _) (gR_toInt _)
  refine lv_aload_n F.1 F.2.1 dL_law_606 rfl (lv_at hl 1 rfl) ?_
  refine lv_aload_n F.1 F.2.1 dL_law_607 rfl (lv_at hl 0 rfl) ?_
  refine lv_iload_n F.1 F.2.1 dL_law_608 rfl (lv_at hl 3 rfl) ?_
  refine gv_iconst F dL_law_609 ?_
  refine gv_iadd F dL_law_610 ?_
  refine gv_sld F hX hbl hbA hS hL ⟨by omega, by omega⟩ dL_law_611 ?_
  refine lv_aload_n F.1 F.2.1 dL_law_612 rfl (lv_at hl 0 rfl) ?_
  refine lv_iload_n F.1 F.2.1 dL_law_613 rfl (lv_at hl 3 rfl) ?_
  refine gv_iconst F dL_law_614 ?_
  refine gv_iadd F dL_law_615 ?_
  refine gv_sld F hX hbl hbA hS hL ⟨by omega, by omega⟩ dL_law_616 ?_
  refine lv_aload_n F.1 F.2.1 dL_law_617 rfl (lv_at hl 0 rfl) ?_
  refine lv_iload_n F.1 F.2.1 dL_law_618 rfl (lv_at hl 3 rfl) ?_
  refine gv_iconst F dL_law_619 ?_
  refine gv_iadd F dL_law_620 ?_
  refine gv_sld F hX hbl hbA hS hL ⟨by omega, by omega⟩ dL_law_621 ?_
  refine gc_VI (As := [.int (iI (sv xs (i + 1))), .int (iI (sv xs (i + 2))), .int (iI (sv xs (i + 3)))]) (wn := fun u : AR × MS => wGh cy aO aL aN aT aK aI o rw u.1 lg sg N u.2 K I ++ wMd cy am o2 ss mm im wa le ro re fa nu) F hK hA hP hD hS (gP_left hP) (gD_left hD) (fun u H1 hk h1 _ => gJ_left hP hD hk h1 gh_adr) (c_X3_answer l D cy aO aL aN aT aK aI o rw rf lg sg N T K I (sv xs (i + 1)) (sv xs (i + 2)) (sv xs (i + 3)) _ h) (cwV 3 F.2.2.2.2 (gG_V k593 k594 k595 k61 k596) rfl rfl rfl hd_X3_answer ⟨Nat.le_of_ble_eq_true rfl, Nat.le_of_ble_eq_true rfl⟩) rfl rfl dL_law_622 rfl rfl hl.1 (Nat.le_of_ble_eq_true rfl) ⟨Nat.le_of_ble_eq_true rfl, Nat.le_of_ble_eq_true rfl⟩ (fun r u H locs h hP hD hS => ?_)
  obtain ⟨rf1, T1⟩ := u
  try dsimp only at h hP hD
  refine lv_aload_n F.1 F.2.1 dL_law_625 rfl (lv_at hl 2 rfl) ?_
  refine lv_aload_n F.1 F.2.1 dL_law_626 rfl (lv_at hl 0 rfl) ?_
  refine lv_iload_n F.1 F.2.1 dL_law_627 rfl (lv_at hl 3 rfl) ?_
  refine gv_iconst F dL_law_628 ?_
  refine gv_iadd F dL_law_629 ?_
  refine gv_sld F hX hbl hbA hS hL ⟨by omega, by omega⟩ dL_law_630 ?_
  refine lv_aload_n F.1 F.2.1 dL_law_631 rfl (lv_at hl 0 rfl) ?_
  refine lv_iload_n F.1 F.2.1 dL_law_632 rfl (lv_at hl 3 rfl) ?_
  refine gv_iconst F dL_law_633 ?_
  refine gv_iadd F dL_law_634 ?_
  refine gv_sld F hX hbl hbA hS hL ⟨by omega, by omega⟩ dL_law_635 ?_
  refine lv_aload_n F.1 F.2.1 dL_law_636 rfl (lv_at hl 0 rfl) ?_
  refine lv_iload_n F.1 F.2.1 dL_law_637 rfl (lv_at hl 3 rfl) ?_
  refine gv_iconst F dL_law_638 ?_
  refine gv_iadd F dL_law_639 ?_
  refine gv_sld F hX hbl hbA hS hL ⟨by omega, by omega⟩ dL_law_640 ?_
  refine gc_VI (As := [.int (iI (sv xs (i + 1))), .int (iI (sv xs (i + 2))), .int (iI (sv xs (i + 3)))]) (wn := fun u : AR × AR × AR => wGh cy aO aL aN aT aK aI o rw rf1 lg sg N T1 K I ++ wMd cy am o2 ss u.1 im wa le ro u.2.1 u.2.2 nu) F hK hA hP hD hS (gP_right hP) (gD_right hD) (fun u H1 hk h1 _ => gJ_right hP hD hk h1 rfl) (c_X4_answer l D cy am o2 ss mm im wa le ro re fa nu (sv xs (i + 1)) (sv xs (i + 2)) (sv xs (i + 3)) _ h) (cwV 3 F.2.2.2.2 (gG_V k998 k999 k1000 k67 k1001) rfl rfl rfl hd_X4_answer ⟨Nat.le_of_ble_eq_true rfl, Nat.le_of_ble_eq_true rfl⟩) rfl rfl dL_law_641 rfl rfl hl.1 (Nat.le_of_ble_eq_true rfl) ⟨Nat.le_of_ble_eq_true rfl, Nat.le_of_ble_eq_true rfl⟩ (fun r2 u H locs h hP hD hS => ?_)
  obtain ⟨mm1, re1, fa1⟩ := u
  try dsimp only at h hP hD
  refine lv_icmp_eq (tgt := 1126) F.1 F.2.1 dL_law_644 (by decide) (fun _ => ?_) (fun c9 => absurd (by rw [h.1]) c9)
  exact ih o rw rf1 lg sg N T1 K I o2 ss mm1 im wa le ro re1 fa1 nu H locs ls h.2 hP hD hS hl
set_option maxHeartbeats 4000000 in
set_option maxRecDepth 20000 in
theorem lw_full {p : Program} {l : Launch} {e : Env} {s : State} {m : MethodId} {below : List Frame} {meth : Method} {c : Code} {b L : Nat} {xs : Nat → Int32} {D : va_G} {cy : ClassId} {kS vS : Nat} {aO aL aN aT aK aI am : Nat → Nat} {o : AR} {rw : AR} {rf : AR} {lg : AR} {sg : AR} {N : MS} {T : MS} {K : MS} {I : MS} {o2 : AR} {ss : AR} {mm : AR} {im : AR} {wa : AR} {le : AR} {ro : AR} {re : AR} {fa : AR} {nu : AR} (F : CallFix p m c cL_law 4 s #[Value.ref b] gT RL) (hX : va_X b L xs s s.heap) (hbl : b < s.heap.size) (hL : L ≤ 2048) (hK : va_K D vwCl [(cy, .int)] s) (hG : gStr kS vS (fun q : Nat => s.heap.size ≤ q) s s.heap) (i : Int) (hi : 0 ≤ i ∧ i + 3 < L) (ih : ∀ (o : AR) (rw : AR) (rf : AR) (lg : AR) (sg : AR) (N : MS) (T : MS) (K : MS) (I : MS) (o2 : AR) (ss : AR) (mm : AR) (im : AR) (wa : AR) (le : AR) (ro : AR) (re : AR) (fa : AR) (nu : AR) (H : Heap) (locs : List Loc) (ls : Array Slot), gInv o rw rf lg sg N T K I o2 ss mm im wa le ro re fa nu → va_P D vwCl (wGh cy aO aL aN aT aK aI o rw rf lg sg N T K I ++ wMd cy am o2 ss mm im wa le ro re fa nu) H → va_D (fun q : Nat => s.heap.size ≤ q) (wGh cy aO aL aN aT aK aI o rw rf lg sg N T K I ++ wMd cy am o2 ss mm im wa le ro re fa nu) → va_S (fun q : Nat => s.heap.size ≤ q) s.heap H locs → lv_has ls 4 [(0, .ref b), (1, .ref (aO 0)), (2, .ref (am 0)), (3, .int (iI i))] → W p l e room_1 s m #[Value.ref b] below meth c H locs 75 1865 (lw_Z below #[Value.ref b] s) (F0 m 1126 ls [])) {H : Heap} {locs : List Loc} {ls : Array Slot} (hI : gInv o rw rf lg sg N T K I o2 ss mm im wa le ro re fa nu) (hP : va_P D vwCl (wGh cy aO aL aN aT aK aI o rw rf lg sg N T K I ++ wMd cy am o2 ss mm im wa le ro re fa nu) H) (hD : va_D (fun q : Nat => s.heap.size ≤ q) (wGh cy aO aL aN aT aK aI o rw rf lg sg N T K I ++ wMd cy am o2 ss mm im wa le ro re fa nu)) (hS : va_S (fun q : Nat => s.heap.size ≤ q) s.heap H locs) (hl : lv_has ls 4 [(0, .ref b), (1, .ref (aO 0)), (2, .ref (am 0)), (3, .int (iI i))]) : W p l e room_1 s m #[Value.ref b] below meth c H locs 75 1865 (lw_Z below #[Value.ref b] s) (F0 m 649 ls []) := by
  have hA : ∀ q : Nat, s.heap.size ≤ q → (fun q : Nat => s.heap.size ≤ q) q := fun _ h => h
  have hbA : ¬ (fun q : Nat => s.heap.size ≤ q) b := Nat.not_le.mpr hbl
  have h := op_full hI (sv xs (i + 1)) (sv xs (i + 2)) (gR_toInt _) (gR_toInt _)
  refine lv_aload_n F.1 F.2.1 dL_law_649 rfl (lv_at hl 1 rfl) ?_
  refine lv_aload_n F.1 F.2.1 dL_law_650 rfl (lv_at hl 0 rfl) ?_
  refine lv_iload_n F.1 F.2.1 dL_law_651 rfl (lv_at hl 3 rfl) ?_
  refine gv_iconst F dL_law_652 ?_
  refine gv_iadd F dL_law_653 ?_
  refine gv_sld F hX hbl hbA hS hL ⟨by omega, by omega⟩ dL_law_654 ?_
  refine lv_aload_n F.1 F.2.1 dL_law_655 rfl (lv_at hl 0 rfl) ?_
  refine lv_iload_n F.1 F.2.1 dL_law_656 rfl (lv_at hl 3 rfl) ?_
  refine gv_iconst F dL_law_657 ?_
  refine gv_iadd F dL_law_658 ?_
  refine gv_sld F hX hbl hbA hS hL ⟨by omega, by omega⟩ dL_law_659 ?_
  refine gc_VI (As := [.int (iI (sv xs (i + 1))), .int (iI (sv xs (i + 2)))]) (wn := fun u : AR × MS => wGh cy aO aL aN aT aK aI o rw u.1 lg sg N u.2 K I ++ wMd cy am o2 ss mm im wa le ro re fa nu) F hK hA hP hD hS (gP_left hP) (gD_left hD) (fun u H1 hk h1 _ => gJ_left hP hD hk h1 gh_adr) (c_X3_full l D cy aO aL aN aT aK aI o rw rf lg sg N T K I (sv xs (i + 1)) (sv xs (i + 2)) _ h) (cwV 2 F.2.2.2.2 (gG_V k598 k599 k600 k61 k601) rfl rfl rfl hd_X3_full ⟨Nat.le_of_ble_eq_true rfl, Nat.le_of_ble_eq_true rfl⟩) rfl rfl dL_law_660 rfl rfl hl.1 (Nat.le_of_ble_eq_true rfl) ⟨Nat.le_of_ble_eq_true rfl, Nat.le_of_ble_eq_true rfl⟩ (fun r u H locs h hP hD hS => ?_)
  obtain ⟨rf1, T1⟩ := u
  try dsimp only at h hP hD
  refine lv_aload_n F.1 F.2.1 dL_law_663 rfl (lv_at hl 2 rfl) ?_
  refine lv_aload_n F.1 F.2.1 dL_law_664 rfl (lv_at hl 0 rfl) ?_
  refine lv_iload_n F.1 F.2.1 dL_law_665 rfl (lv_at hl 3 rfl) ?_
  refine gv_iconst F dL_law_666 ?_
  refine gv_iadd F dL_law_667 ?_
  refine gv_sld F hX hbl hbA hS hL ⟨by omega, by omega⟩ dL_law_668 ?_
  refine lv_aload_n F.1 F.2.1 dL_law_669 rfl (lv_at hl 0 rfl) ?_
  refine lv_iload_n F.1 F.2.1 dL_law_670 rfl (lv_at hl 3 rfl) ?_
  refine gv_iconst F dL_law_671 ?_
  refine gv_iadd F dL_law_672 ?_
  refine gv_sld F hX hbl hbA hS hL ⟨by omega, by omega⟩ dL_law_673 ?_
  refine gc_VI (As := [.int (iI (sv xs (i + 1))), .int (iI (sv xs (i + 2)))]) (wn := fun u : AR × AR × AR × AR => wGh cy aO aL aN aT aK aI o rw rf1 lg sg N T1 K I ++ wMd cy am u.1 ss u.2.1 im wa le ro u.2.2.1 u.2.2.2 nu) F hK hA hP hD hS (gP_right hP) (gD_right hD) (fun u H1 hk h1 _ => gJ_right hP hD hk h1 rfl) (c_X4_full l D cy am o2 ss mm im wa le ro re fa nu (sv xs (i + 1)) (sv xs (i + 2)) _ h) (cwV 2 F.2.2.2.2 (gG_V k1002 k1003 k1004 k67 k1005) rfl rfl rfl hd_X4_full ⟨Nat.le_of_ble_eq_true rfl, Nat.le_of_ble_eq_true rfl⟩) rfl rfl dL_law_674 rfl rfl hl.1 (Nat.le_of_ble_eq_true rfl) ⟨Nat.le_of_ble_eq_true rfl, Nat.le_of_ble_eq_true rfl⟩ (fun r2 u H locs h hP hD hS => ?_)
  obtain ⟨o21, mm1, re1, fa1⟩ := u
  try dsimp only at h hP hD
  refine lv_icmp_eq (tgt := 1126) F.1 F.2.1 dL_law_677 (by decide) (fun _ => ?_) (fun c9 => absurd (by rw [h.1]) c9)
  exact ih o rw rf1 lg sg N T1 K I o21 ss mm1 im wa le ro re1 fa1 nu H locs ls h.2 hP hD hS hl
set_option maxHeartbeats 4000000 in
set_option maxRecDepth 20000 in
theorem lw_right {p : Program} {l : Launch} {e : Env} {s : State} {m : MethodId} {below : List Frame} {meth : Method} {c : Code} {b L : Nat} {xs : Nat → Int32} {D : va_G} {cy : ClassId} {kS vS : Nat} {aO aL aN aT aK aI am : Nat → Nat} {o : AR} {rw : AR} {rf : AR} {lg : AR} {sg : AR} {N : MS} {T : MS} {K : MS} {I : MS} {o2 : AR} {ss : AR} {mm : AR} {im : AR} {wa : AR} {le : AR} {ro : AR} {re : AR} {fa : AR} {nu : AR} (F : CallFix p m c cL_law 4 s #[Value.ref b] gT RL) (hX : va_X b L xs s s.heap) (hbl : b < s.heap.size) (hL : L ≤ 2048) (hK : va_K D vwCl [(cy, .int)] s) (hG : gStr kS vS (fun q : Nat => s.heap.size ≤ q) s s.heap) (i : Int) (hi : 0 ≤ i ∧ i + 3 < L) (ih : ∀ (o : AR) (rw : AR) (rf : AR) (lg : AR) (sg : AR) (N : MS) (T : MS) (K : MS) (I : MS) (o2 : AR) (ss : AR) (mm : AR) (im : AR) (wa : AR) (le : AR) (ro : AR) (re : AR) (fa : AR) (nu : AR) (H : Heap) (locs : List Loc) (ls : Array Slot), gInv o rw rf lg sg N T K I o2 ss mm im wa le ro re fa nu → va_P D vwCl (wGh cy aO aL aN aT aK aI o rw rf lg sg N T K I ++ wMd cy am o2 ss mm im wa le ro re fa nu) H → va_D (fun q : Nat => s.heap.size ≤ q) (wGh cy aO aL aN aT aK aI o rw rf lg sg N T K I ++ wMd cy am o2 ss mm im wa le ro re fa nu) → va_S (fun q : Nat => s.heap.size ≤ q) s.heap H locs → lv_has ls 4 [(0, .ref b), (1, .ref (aO 0)), (2, .ref (am 0)), (3, .int (iI i))] → W p l e room_1 s m #[Value.ref b] below meth c H locs 75 1865 (lw_Z below #[Value.ref b] s) (F0 m 1126 ls [])) {H : Heap} {locs : List Loc} {ls : Array Slot} (hI : gInv o rw rf lg sg N T K I o2 ss mm im wa le ro re fa nu) (hP : va_P D vwCl (wGh cy aO aL aN aT aK aI o rw rf lg sg N T K I ++ wMd cy am o2 ss mm im wa le ro re fa nu) H) (hD : va_D (fun q : Nat => s.heap.size ≤ q) (wGh cy aO aL aN aT aK aI o rw rf lg sg N T K I ++ wMd cy am o2 ss mm im wa le ro re fa nu)) (hS : va_S (fun q : Nat => s.heap.size ≤ q) s.heap H locs) (hl : lv_has ls 4 [(0, .ref b), (1, .ref (aO 0)), (2, .ref (am 0)), (3, .int (iI i))]) : W p l e room_1 s m #[Value.ref b] below meth c H locs 75 1865 (lw_Z below #[Value.ref b] s) (F0 m 682 ls []) := by
  have hA : ∀ q : Nat, s.heap.size ≤ q → (fun q : Nat => s.heap.size ≤ q) q := fun _ h => h
  have hbA : ¬ (fun q : Nat => s.heap.size ≤ q) b := Nat.not_le.mpr hbl
  have h := op_right hI (sv xs (i + 1)) (gR_toInt _)
  refine lv_aload_n F.1 F.2.1 dL_law_682 rfl (lv_at hl 1 rfl) ?_
  refine lv_aload_n F.1 F.2.1 dL_law_683 rfl (lv_at hl 0 rfl) ?_
  refine lv_iload_n F.1 F.2.1 dL_law_684 rfl (lv_at hl 3 rfl) ?_
  refine gv_iconst F dL_law_685 ?_
  refine gv_iadd F dL_law_686 ?_
  refine gv_sld F hX hbl hbA hS hL ⟨by omega, by omega⟩ dL_law_687 ?_
  refine gc_VI (As := [.int (iI (sv xs (i + 1)))]) (wn := fun u : AR × MS => wGh cy aO aL aN aT aK aI o rw u.1 lg sg N u.2 K I ++ wMd cy am o2 ss mm im wa le ro re fa nu) F hK hA hP hD hS (gP_left hP) (gD_left hD) (fun u H1 hk h1 _ => gJ_left hP hD hk h1 gh_adr) (c_X3_right l D cy aO aL aN aT aK aI o rw rf lg sg N T K I (sv xs (i + 1)) _ h) (cwV 1 F.2.2.2.2 (gG_V k610 k611 k612 k61 k613) rfl rfl rfl hd_X3_right ⟨Nat.le_of_ble_eq_true rfl, Nat.le_of_ble_eq_true rfl⟩) rfl rfl dL_law_688 rfl rfl hl.1 (Nat.le_of_ble_eq_true rfl) ⟨Nat.le_of_ble_eq_true rfl, Nat.le_of_ble_eq_true rfl⟩ (fun r u H locs h hP hD hS => ?_)
  obtain ⟨rf1, T1⟩ := u
  try dsimp only at h hP hD
  refine lv_aload_n F.1 F.2.1 dL_law_691 rfl (lv_at hl 2 rfl) ?_
  refine lv_aload_n F.1 F.2.1 dL_law_692 rfl (lv_at hl 0 rfl) ?_
  refine lv_iload_n F.1 F.2.1 dL_law_693 rfl (lv_at hl 3 rfl) ?_
  refine gv_iconst F dL_law_694 ?_
  refine gv_iadd F dL_law_695 ?_
  refine gv_sld F hX hbl hbA hS hL ⟨by omega, by omega⟩ dL_law_696 ?_
  refine gc_VI (As := [.int (iI (sv xs (i + 1)))]) (wn := fun u : AR × AR × AR => wGh cy aO aL aN aT aK aI o rw rf1 lg sg N T1 K I ++ wMd cy am o2 ss u.1 im wa le ro u.2.1 u.2.2 nu) F hK hA hP hD hS (gP_right hP) (gD_right hD) (fun u H1 hk h1 _ => gJ_right hP hD hk h1 rfl) (c_X4_right l D cy am o2 ss mm im wa le ro re fa nu (sv xs (i + 1)) _ h) (cwV 1 F.2.2.2.2 (gG_V k1013 k1014 k1015 k67 k1016) rfl rfl rfl hd_X4_right ⟨Nat.le_of_ble_eq_true rfl, Nat.le_of_ble_eq_true rfl⟩) rfl rfl dL_law_697 rfl rfl hl.1 (Nat.le_of_ble_eq_true rfl) ⟨Nat.le_of_ble_eq_true rfl, Nat.le_of_ble_eq_true rfl⟩ (fun r2 u H locs h hP hD hS => ?_)
  obtain ⟨mm1, re1, fa1⟩ := u
  try dsimp only at h hP hD
  refine lv_icmp_eq (tgt := 1126) F.1 F.2.1 dL_law_700 (by decide) (fun _ => ?_) (fun c9 => absurd (by rw [h.1]) c9)
  exact ih o rw rf1 lg sg N T1 K I o2 ss mm1 im wa le ro re1 fa1 nu H locs ls h.2 hP hD hS hl
set_option maxHeartbeats 4000000 in
set_option maxRecDepth 20000 in
theorem lw_bestFirst {p : Program} {l : Launch} {e : Env} {s : State} {m : MethodId} {below : List Frame} {meth : Method} {c : Code} {b L : Nat} {xs : Nat → Int32} {D : va_G} {cy : ClassId} {kS vS : Nat} {aO aL aN aT aK aI am : Nat → Nat} {o : AR} {rw : AR} {rf : AR} {lg : AR} {sg : AR} {N : MS} {T : MS} {K : MS} {I : MS} {o2 : AR} {ss : AR} {mm : AR} {im : AR} {wa : AR} {le : AR} {ro : AR} {re : AR} {fa : AR} {nu : AR} (F : CallFix p m c cL_law 4 s #[Value.ref b] gT RL) (hX : va_X b L xs s s.heap) (hbl : b < s.heap.size) (hL : L ≤ 2048) (hK : va_K D vwCl [(cy, .int)] s) (hG : gStr kS vS (fun q : Nat => s.heap.size ≤ q) s s.heap) (i : Int) (hi : 0 ≤ i ∧ i + 3 < L) (ih : ∀ (o : AR) (rw : AR) (rf : AR) (lg : AR) (sg : AR) (N : MS) (T : MS) (K : MS) (I : MS) (o2 : AR) (ss : AR) (mm : AR) (im : AR) (wa : AR) (le : AR) (ro : AR) (re : AR) (fa : AR) (nu : AR) (H : Heap) (locs : List Loc) (ls : Array Slot), gInv o rw rf lg sg N T K I o2 ss mm im wa le ro re fa nu → va_P D vwCl (wGh cy aO aL aN aT aK aI o rw rf lg sg N T K I ++ wMd cy am o2 ss mm im wa le ro re fa nu) H → va_D (fun q : Nat => s.heap.size ≤ q) (wGh cy aO aL aN aT aK aI o rw rf lg sg N T K I ++ wMd cy am o2 ss mm im wa le ro re fa nu) → va_S (fun q : Nat => s.heap.size ≤ q) s.heap H locs → lv_has ls 4 [(0, .ref b), (1, .ref (aO 0)), (2, .ref (am 0)), (3, .int (iI i))] → W p l e room_1 s m #[Value.ref b] below meth c H locs 75 1865 (lw_Z below #[Value.ref b] s) (F0 m 1126 ls [])) {H : Heap} {locs : List Loc} {ls : Array Slot} (hI : gInv o rw rf lg sg N T K I o2 ss mm im wa le ro re fa nu) (hP : va_P D vwCl (wGh cy aO aL aN aT aK aI o rw rf lg sg N T K I ++ wMd cy am o2 ss mm im wa le ro re fa nu) H) (hD : va_D (fun q : Nat => s.heap.size ≤ q) (wGh cy aO aL aN aT aK aI o rw rf lg sg N T K I ++ wMd cy am o2 ss mm im wa le ro re fa nu)) (hS : va_S (fun q : Nat => s.heap.size ≤ q) s.heap H locs) (hl : lv_has ls 4 [(0, .ref b), (1, .ref (aO 0)), (2, .ref (am 0)), (3, .int (iI i))]) : W p l e room_1 s m #[Value.ref b] below meth c H locs 75 1865 (lw_Z below #[Value.ref b] s) (F0 m 705 ls []) := by
  have hA : ∀ q : Nat, s.heap.size ≤ q → (fun q : Nat => s.heap.size ≤ q) q := fun _ h => h
  have hbA : ¬ (fun q : Nat => s.heap.size ≤ q) b := Nat.not_le.mpr hbl
  have h := op_bestFirst hI (sv xs (i + 1)) (sv xs (i + 2)) (gR_toInt _) (gR_toInt _)
  refine lv_aload_n F.1 F.2.1 dL_law_705 rfl (lv_at hl 1 rfl) ?_
  refine lv_aload_n F.1 F.2.1 dL_law_706 rfl (lv_at hl 0 rfl) ?_
  refine lv_iload_n F.1 F.2.1 dL_law_707 rfl (lv_at hl 3 rfl) ?_
  refine gv_iconst F dL_law_708 ?_
  refine gv_iadd F dL_law_709 ?_
  refine gv_sld F hX hbl hbA hS hL ⟨by omega, by omega⟩ dL_law_710 ?_
  refine lv_aload_n F.1 F.2.1 dL_law_711 rfl (lv_at hl 0 rfl) ?_
  refine lv_iload_n F.1 F.2.1 dL_law_712 rfl (lv_at hl 3 rfl) ?_
  refine gv_iconst F dL_law_713 ?_
  refine gv_iadd F dL_law_714 ?_
  refine gv_sld F hX hbl hbA hS hL ⟨by omega, by omega⟩ dL_law_715 ?_
  refine gc_VI (As := [.int (iI (sv xs (i + 1))), .int (iI (sv xs (i + 2)))]) (wn := fun u : AR × MS => wGh cy aO aL aN aT aK aI o rw u.1 lg sg N u.2 K I ++ wMd cy am o2 ss mm im wa le ro re fa nu) F hK hA hP hD hS (gP_left hP) (gD_left hD) (fun u H1 hk h1 _ => gJ_left hP hD hk h1 gh_adr) (c_X3_bestFirst l D cy aO aL aN aT aK aI o rw rf lg sg N T K I (sv xs (i + 1)) (sv xs (i + 2)) _ h) (cwV 2 F.2.2.2.2 (gG_V k614 k615 k616 k61 k617) rfl rfl rfl hd_X3_bestFirst ⟨Nat.le_of_ble_eq_true rfl, Nat.le_of_ble_eq_true rfl⟩) rfl rfl dL_law_716 rfl rfl hl.1 (Nat.le_of_ble_eq_true rfl) ⟨Nat.le_of_ble_eq_true rfl, Nat.le_of_ble_eq_true rfl⟩ (fun r u H locs h hP hD hS => ?_)
  obtain ⟨rf1, T1⟩ := u
  try dsimp only at h hP hD
  refine lv_aload_n F.1 F.2.1 dL_law_719 rfl (lv_at hl 2 rfl) ?_
  refine lv_aload_n F.1 F.2.1 dL_law_720 rfl (lv_at hl 0 rfl) ?_
  refine lv_iload_n F.1 F.2.1 dL_law_721 rfl (lv_at hl 3 rfl) ?_
  refine gv_iconst F dL_law_722 ?_
  refine gv_iadd F dL_law_723 ?_
  refine gv_sld F hX hbl hbA hS hL ⟨by omega, by omega⟩ dL_law_724 ?_
  refine lv_aload_n F.1 F.2.1 dL_law_725 rfl (lv_at hl 0 rfl) ?_
  refine lv_iload_n F.1 F.2.1 dL_law_726 rfl (lv_at hl 3 rfl) ?_
  refine gv_iconst F dL_law_727 ?_
  refine gv_iadd F dL_law_728 ?_
  refine gv_sld F hX hbl hbA hS hL ⟨by omega, by omega⟩ dL_law_729 ?_
  refine gc_VI (As := [.int (iI (sv xs (i + 1))), .int (iI (sv xs (i + 2)))]) (wn := fun u : AR × AR × AR => wGh cy aO aL aN aT aK aI o rw rf1 lg sg N T1 K I ++ wMd cy am o2 ss u.1 im wa le ro u.2.1 u.2.2 nu) F hK hA hP hD hS (gP_right hP) (gD_right hD) (fun u H1 hk h1 _ => gJ_right hP hD hk h1 rfl) (c_X4_bestFirst l D cy am o2 ss mm im wa le ro re fa nu (sv xs (i + 1)) (sv xs (i + 2)) _ h) (cwV 2 F.2.2.2.2 (gG_V k1017 k1018 k1019 k67 k1020) rfl rfl rfl hd_X4_bestFirst ⟨Nat.le_of_ble_eq_true rfl, Nat.le_of_ble_eq_true rfl⟩) rfl rfl dL_law_730 rfl rfl hl.1 (Nat.le_of_ble_eq_true rfl) ⟨Nat.le_of_ble_eq_true rfl, Nat.le_of_ble_eq_true rfl⟩ (fun r2 u H locs h hP hD hS => ?_)
  obtain ⟨mm1, re1, fa1⟩ := u
  try dsimp only at h hP hD
  refine lv_icmp_eq (tgt := 1126) F.1 F.2.1 dL_law_733 (by decide) (fun _ => ?_) (fun c9 => absurd (by rw [h.1]) c9)
  exact ih o rw rf1 lg sg N T1 K I o2 ss mm1 im wa le ro re1 fa1 nu H locs ls h.2 hP hD hS hl
set_option maxHeartbeats 4000000 in
set_option maxRecDepth 20000 in
theorem lw_apart {p : Program} {l : Launch} {e : Env} {s : State} {m : MethodId} {below : List Frame} {meth : Method} {c : Code} {b L : Nat} {xs : Nat → Int32} {D : va_G} {cy : ClassId} {kS vS : Nat} {aO aL aN aT aK aI am : Nat → Nat} {o : AR} {rw : AR} {rf : AR} {lg : AR} {sg : AR} {N : MS} {T : MS} {K : MS} {I : MS} {o2 : AR} {ss : AR} {mm : AR} {im : AR} {wa : AR} {le : AR} {ro : AR} {re : AR} {fa : AR} {nu : AR} (F : CallFix p m c cL_law 4 s #[Value.ref b] gT RL) (hX : va_X b L xs s s.heap) (hbl : b < s.heap.size) (hL : L ≤ 2048) (hK : va_K D vwCl [(cy, .int)] s) (hG : gStr kS vS (fun q : Nat => s.heap.size ≤ q) s s.heap) (i : Int) (hi : 0 ≤ i ∧ i + 3 < L) (ih : ∀ (o : AR) (rw : AR) (rf : AR) (lg : AR) (sg : AR) (N : MS) (T : MS) (K : MS) (I : MS) (o2 : AR) (ss : AR) (mm : AR) (im : AR) (wa : AR) (le : AR) (ro : AR) (re : AR) (fa : AR) (nu : AR) (H : Heap) (locs : List Loc) (ls : Array Slot), gInv o rw rf lg sg N T K I o2 ss mm im wa le ro re fa nu → va_P D vwCl (wGh cy aO aL aN aT aK aI o rw rf lg sg N T K I ++ wMd cy am o2 ss mm im wa le ro re fa nu) H → va_D (fun q : Nat => s.heap.size ≤ q) (wGh cy aO aL aN aT aK aI o rw rf lg sg N T K I ++ wMd cy am o2 ss mm im wa le ro re fa nu) → va_S (fun q : Nat => s.heap.size ≤ q) s.heap H locs → lv_has ls 4 [(0, .ref b), (1, .ref (aO 0)), (2, .ref (am 0)), (3, .int (iI i))] → W p l e room_1 s m #[Value.ref b] below meth c H locs 75 1865 (lw_Z below #[Value.ref b] s) (F0 m 1126 ls [])) {H : Heap} {locs : List Loc} {ls : Array Slot} (hI : gInv o rw rf lg sg N T K I o2 ss mm im wa le ro re fa nu) (hP : va_P D vwCl (wGh cy aO aL aN aT aK aI o rw rf lg sg N T K I ++ wMd cy am o2 ss mm im wa le ro re fa nu) H) (hD : va_D (fun q : Nat => s.heap.size ≤ q) (wGh cy aO aL aN aT aK aI o rw rf lg sg N T K I ++ wMd cy am o2 ss mm im wa le ro re fa nu)) (hS : va_S (fun q : Nat => s.heap.size ≤ q) s.heap H locs) (hl : lv_has ls 4 [(0, .ref b), (1, .ref (aO 0)), (2, .ref (am 0)), (3, .int (iI i))]) : W p l e room_1 s m #[Value.ref b] below meth c H locs 75 1865 (lw_Z below #[Value.ref b] s) (F0 m 738 ls []) := by
  have hA : ∀ q : Nat, s.heap.size ≤ q → (fun q : Nat => s.heap.size ≤ q) q := fun _ h => h
  have hbA : ¬ (fun q : Nat => s.heap.size ≤ q) b := Nat.not_le.mpr hbl
  have h := op_apart hI (sv xs (i + 1)) (gR_toInt _)
  refine lv_aload_n F.1 F.2.1 dL_law_738 rfl (lv_at hl 1 rfl) ?_
  refine lv_aload_n F.1 F.2.1 dL_law_739 rfl (lv_at hl 0 rfl) ?_
  refine lv_iload_n F.1 F.2.1 dL_law_740 rfl (lv_at hl 3 rfl) ?_
  refine gv_iconst F dL_law_741 ?_
  refine gv_iadd F dL_law_742 ?_
  refine gv_sld F hX hbl hbA hS hL ⟨by omega, by omega⟩ dL_law_743 ?_
  refine gc_VI (As := [.int (iI (sv xs (i + 1)))]) (wn := fun u : AR × MS => wGh cy aO aL aN aT aK aI o rw u.1 lg sg N u.2 K I ++ wMd cy am o2 ss mm im wa le ro re fa nu) F hK hA hP hD hS (gP_left hP) (gD_left hD) (fun u H1 hk h1 _ => gJ_left hP hD hk h1 gh_adr) (c_X3_apart l D cy aO aL aN aT aK aI o rw rf lg sg N T K I (sv xs (i + 1)) _ h) (cwV 1 F.2.2.2.2 (gG_V k626 k627 k628 k61 k629) rfl rfl rfl hd_X3_apart ⟨Nat.le_of_ble_eq_true rfl, Nat.le_of_ble_eq_true rfl⟩) rfl rfl dL_law_744 rfl rfl hl.1 (Nat.le_of_ble_eq_true rfl) ⟨Nat.le_of_ble_eq_true rfl, Nat.le_of_ble_eq_true rfl⟩ (fun r u H locs h hP hD hS => ?_)
  obtain ⟨rf1, T1⟩ := u
  try dsimp only at h hP hD
  refine lv_aload_n F.1 F.2.1 dL_law_747 rfl (lv_at hl 2 rfl) ?_
  refine lv_aload_n F.1 F.2.1 dL_law_748 rfl (lv_at hl 0 rfl) ?_
  refine lv_iload_n F.1 F.2.1 dL_law_749 rfl (lv_at hl 3 rfl) ?_
  refine gv_iconst F dL_law_750 ?_
  refine gv_iadd F dL_law_751 ?_
  refine gv_sld F hX hbl hbA hS hL ⟨by omega, by omega⟩ dL_law_752 ?_
  refine gc_VI (As := [.int (iI (sv xs (i + 1)))]) (wn := fun u : AR × AR × AR × AR => wGh cy aO aL aN aT aK aI o rw rf1 lg sg N T1 K I ++ wMd cy am u.1 ss u.2.1 im wa le ro u.2.2.1 u.2.2.2 nu) F hK hA hP hD hS (gP_right hP) (gD_right hD) (fun u H1 hk h1 _ => gJ_right hP hD hk h1 rfl) (c_X4_apart l D cy am o2 ss mm im wa le ro re fa nu (sv xs (i + 1)) _ h) (cwV 1 F.2.2.2.2 (gG_V k1021 k1022 k1023 k67 k1024) rfl rfl rfl hd_X4_apart ⟨Nat.le_of_ble_eq_true rfl, Nat.le_of_ble_eq_true rfl⟩) rfl rfl dL_law_753 rfl rfl hl.1 (Nat.le_of_ble_eq_true rfl) ⟨Nat.le_of_ble_eq_true rfl, Nat.le_of_ble_eq_true rfl⟩ (fun r2 u H locs h hP hD hS => ?_)
  obtain ⟨o21, mm1, re1, fa1⟩ := u
  try dsimp only at h hP hD
  refine lv_icmp_eq (tgt := 1126) F.1 F.2.1 dL_law_756 (by decide) (fun _ => ?_) (fun c9 => absurd (by rw [h.1]) c9)
  exact ih o rw rf1 lg sg N T1 K I o21 ss mm1 im wa le ro re1 fa1 nu H locs ls h.2 hP hD hS hl
set_option maxHeartbeats 4000000 in
set_option maxRecDepth 20000 in
theorem lw_leave {p : Program} {l : Launch} {e : Env} {s : State} {m : MethodId} {below : List Frame} {meth : Method} {c : Code} {b L : Nat} {xs : Nat → Int32} {D : va_G} {cy : ClassId} {kS vS : Nat} {aO aL aN aT aK aI am : Nat → Nat} {o : AR} {rw : AR} {rf : AR} {lg : AR} {sg : AR} {N : MS} {T : MS} {K : MS} {I : MS} {o2 : AR} {ss : AR} {mm : AR} {im : AR} {wa : AR} {le : AR} {ro : AR} {re : AR} {fa : AR} {nu : AR} (F : CallFix p m c cL_law 4 s #[Value.ref b] gT RL) (hX : va_X b L xs s s.heap) (hbl : b < s.heap.size) (hL : L ≤ 2048) (hK : va_K D vwCl [(cy, .int)] s) (hG : gStr kS vS (fun q : Nat => s.heap.size ≤ q) s s.heap) (i : Int) (hi : 0 ≤ i ∧ i + 3 < L) (ih : ∀ (o : AR) (rw : AR) (rf : AR) (lg : AR) (sg : AR) (N : MS) (T : MS) (K : MS) (I : MS) (o2 : AR) (ss : AR) (mm : AR) (im : AR) (wa : AR) (le : AR) (ro : AR) (re : AR) (fa : AR) (nu : AR) (H : Heap) (locs : List Loc) (ls : Array Slot), gInv o rw rf lg sg N T K I o2 ss mm im wa le ro re fa nu → va_P D vwCl (wGh cy aO aL aN aT aK aI o rw rf lg sg N T K I ++ wMd cy am o2 ss mm im wa le ro re fa nu) H → va_D (fun q : Nat => s.heap.size ≤ q) (wGh cy aO aL aN aT aK aI o rw rf lg sg N T K I ++ wMd cy am o2 ss mm im wa le ro re fa nu) → va_S (fun q : Nat => s.heap.size ≤ q) s.heap H locs → lv_has ls 4 [(0, .ref b), (1, .ref (aO 0)), (2, .ref (am 0)), (3, .int (iI i))] → W p l e room_1 s m #[Value.ref b] below meth c H locs 75 1865 (lw_Z below #[Value.ref b] s) (F0 m 1126 ls [])) {H : Heap} {locs : List Loc} {ls : Array Slot} (hI : gInv o rw rf lg sg N T K I o2 ss mm im wa le ro re fa nu) (hP : va_P D vwCl (wGh cy aO aL aN aT aK aI o rw rf lg sg N T K I ++ wMd cy am o2 ss mm im wa le ro re fa nu) H) (hD : va_D (fun q : Nat => s.heap.size ≤ q) (wGh cy aO aL aN aT aK aI o rw rf lg sg N T K I ++ wMd cy am o2 ss mm im wa le ro re fa nu)) (hS : va_S (fun q : Nat => s.heap.size ≤ q) s.heap H locs) (hl : lv_has ls 4 [(0, .ref b), (1, .ref (aO 0)), (2, .ref (am 0)), (3, .int (iI i))]) : W p l e room_1 s m #[Value.ref b] below meth c H locs 75 1865 (lw_Z below #[Value.ref b] s) (F0 m 761 ls []) := by
  have hA : ∀ q : Nat, s.heap.size ≤ q → (fun q : Nat => s.heap.size ≤ q) q := fun _ h => h
  have hbA : ¬ (fun q : Nat => s.heap.size ≤ q) b := Nat.not_le.mpr hbl
  have h := op_leave hI  
  refine lv_aload_n F.1 F.2.1 dL_law_761 rfl (lv_at hl 1 rfl) ?_
  refine gc_VI (As := []) (wn := fun u : MS => wGh cy aO aL aN aT aK aI o rw rf lg sg N u K I ++ wMd cy am o2 ss mm im wa le ro re fa nu) F hK hA hP hD hS (gP_left hP) (gD_left hD) (fun u H1 hk h1 _ => gJ_left hP hD hk h1 gh_adr) (c_X3_leave l D cy aO aL aN aT aK aI o rw rf lg sg N T K I  _ h) (cwV 0 F.2.2.2.2 (gG_V k642 k643 k644 k61 k645) rfl rfl rfl hd_X3_leave ⟨Nat.le_of_ble_eq_true rfl, Nat.le_of_ble_eq_true rfl⟩) rfl rfl dL_law_762 rfl rfl hl.1 (Nat.le_of_ble_eq_true rfl) ⟨Nat.le_of_ble_eq_true rfl, Nat.le_of_ble_eq_true rfl⟩ (fun r u H locs h hP hD hS => ?_)
  obtain ⟨T1, rfl⟩ : ∃ z, z = u := ⟨_, rfl⟩
  try dsimp only at h hP hD
  refine lv_aload_n F.1 F.2.1 dL_law_765 rfl (lv_at hl 2 rfl) ?_
  refine gc_VI (As := []) (wn := fun u : AR × AR => wGh cy aO aL aN aT aK aI o rw rf lg sg N T1 K I ++ wMd cy am o2 ss u.1 im wa le ro re u.2 nu) F hK hA hP hD hS (gP_right hP) (gD_right hD) (fun u H1 hk h1 _ => gJ_right hP hD hk h1 rfl) (c_X4_leave l D cy am o2 ss mm im wa le ro re fa nu  _ h) (cwV 0 F.2.2.2.2 (gG_V k1025 k1026 k1027 k67 k1028) rfl rfl rfl hd_X4_leave ⟨Nat.le_of_ble_eq_true rfl, Nat.le_of_ble_eq_true rfl⟩) rfl rfl dL_law_766 rfl rfl hl.1 (Nat.le_of_ble_eq_true rfl) ⟨Nat.le_of_ble_eq_true rfl, Nat.le_of_ble_eq_true rfl⟩ (fun r2 u H locs h hP hD hS => ?_)
  obtain ⟨mm1, fa1⟩ := u
  try dsimp only at h hP hD
  refine lv_icmp_eq (tgt := 1126) F.1 F.2.1 dL_law_769 (by decide) (fun _ => ?_) (fun c9 => absurd (by rw [h.1]) c9)
  exact ih o rw rf lg sg N T1 K I o2 ss mm1 im wa le ro re fa1 nu H locs ls h.2 hP hD hS hl
set_option maxHeartbeats 4000000 in
set_option maxRecDepth 20000 in
theorem lw_tell {p : Program} {l : Launch} {e : Env} {s : State} {m : MethodId} {below : List Frame} {meth : Method} {c : Code} {b L : Nat} {xs : Nat → Int32} {D : va_G} {cy : ClassId} {kS vS : Nat} {aO aL aN aT aK aI am : Nat → Nat} {o : AR} {rw : AR} {rf : AR} {lg : AR} {sg : AR} {N : MS} {T : MS} {K : MS} {I : MS} {o2 : AR} {ss : AR} {mm : AR} {im : AR} {wa : AR} {le : AR} {ro : AR} {re : AR} {fa : AR} {nu : AR} (F : CallFix p m c cL_law 4 s #[Value.ref b] gT RL) (hX : va_X b L xs s s.heap) (hbl : b < s.heap.size) (hL : L ≤ 2048) (hK : va_K D vwCl [(cy, .int)] s) (hG : gStr kS vS (fun q : Nat => s.heap.size ≤ q) s s.heap) (i : Int) (hi : 0 ≤ i ∧ i + 3 < L) (ih : ∀ (o : AR) (rw : AR) (rf : AR) (lg : AR) (sg : AR) (N : MS) (T : MS) (K : MS) (I : MS) (o2 : AR) (ss : AR) (mm : AR) (im : AR) (wa : AR) (le : AR) (ro : AR) (re : AR) (fa : AR) (nu : AR) (H : Heap) (locs : List Loc) (ls : Array Slot), gInv o rw rf lg sg N T K I o2 ss mm im wa le ro re fa nu → va_P D vwCl (wGh cy aO aL aN aT aK aI o rw rf lg sg N T K I ++ wMd cy am o2 ss mm im wa le ro re fa nu) H → va_D (fun q : Nat => s.heap.size ≤ q) (wGh cy aO aL aN aT aK aI o rw rf lg sg N T K I ++ wMd cy am o2 ss mm im wa le ro re fa nu) → va_S (fun q : Nat => s.heap.size ≤ q) s.heap H locs → lv_has ls 4 [(0, .ref b), (1, .ref (aO 0)), (2, .ref (am 0)), (3, .int (iI i))] → W p l e room_1 s m #[Value.ref b] below meth c H locs 75 1865 (lw_Z below #[Value.ref b] s) (F0 m 1126 ls [])) {H : Heap} {locs : List Loc} {ls : Array Slot} (hI : gInv o rw rf lg sg N T K I o2 ss mm im wa le ro re fa nu) (hP : va_P D vwCl (wGh cy aO aL aN aT aK aI o rw rf lg sg N T K I ++ wMd cy am o2 ss mm im wa le ro re fa nu) H) (hD : va_D (fun q : Nat => s.heap.size ≤ q) (wGh cy aO aL aN aT aK aI o rw rf lg sg N T K I ++ wMd cy am o2 ss mm im wa le ro re fa nu)) (hS : va_S (fun q : Nat => s.heap.size ≤ q) s.heap H locs) (hl : lv_has ls 4 [(0, .ref b), (1, .ref (aO 0)), (2, .ref (am 0)), (3, .int (iI i))]) : W p l e room_1 s m #[Value.ref b] below meth c H locs 75 1865 (lw_Z below #[Value.ref b] s) (F0 m 774 ls []) := by
  have hA : ∀ q : Nat, s.heap.size ≤ q → (fun q : Nat => s.heap.size ≤ q) q := fun _ h => h
  have hbA : ¬ (fun q : Nat => s.heap.size ≤ q) b := Nat.not_le.mpr hbl
  have h := op_tell hI (sv xs (i + 1)) (gR_toInt _)
  refine lv_aload_n F.1 F.2.1 dL_law_774 rfl (lv_at hl 1 rfl) ?_
  refine lv_aload_n F.1 F.2.1 dL_law_775 rfl (lv_at hl 0 rfl) ?_
  refine lv_iload_n F.1 F.2.1 dL_law_776 rfl (lv_at hl 3 rfl) ?_
  refine gv_iconst F dL_law_777 ?_
  refine gv_iadd F dL_law_778 ?_
  refine gv_sld F hX hbl hbA hS hL ⟨by omega, by omega⟩ dL_law_779 ?_
  refine gc_VI (As := [.int (iI (sv xs (i + 1)))]) (wn := fun u : AR × MS => wGh cy aO aL aN aT aK aI o rw u.1 lg sg N u.2 K I ++ wMd cy am o2 ss mm im wa le ro re fa nu) F hK hA hP hD hS (gP_left hP) (gD_left hD) (fun u H1 hk h1 _ => gJ_left hP hD hk h1 gh_adr) (c_X3_tell l D cy aO aL aN aT aK aI o rw rf lg sg N T K I (sv xs (i + 1)) _ h) (cwV 1 F.2.2.2.2 (gG_V k650 k651 k652 k61 k653) rfl rfl rfl hd_X3_tell ⟨Nat.le_of_ble_eq_true rfl, Nat.le_of_ble_eq_true rfl⟩) rfl rfl dL_law_780 rfl rfl hl.1 (Nat.le_of_ble_eq_true rfl) ⟨Nat.le_of_ble_eq_true rfl, Nat.le_of_ble_eq_true rfl⟩ (fun r u H locs h hP hD hS => ?_)
  obtain ⟨rf1, T1⟩ := u
  try dsimp only at h hP hD
  refine lv_aload_n F.1 F.2.1 dL_law_783 rfl (lv_at hl 2 rfl) ?_
  refine lv_aload_n F.1 F.2.1 dL_law_784 rfl (lv_at hl 0 rfl) ?_
  refine lv_iload_n F.1 F.2.1 dL_law_785 rfl (lv_at hl 3 rfl) ?_
  refine gv_iconst F dL_law_786 ?_
  refine gv_iadd F dL_law_787 ?_
  refine gv_sld F hX hbl hbA hS hL ⟨by omega, by omega⟩ dL_law_788 ?_
  refine gc_VI (As := [.int (iI (sv xs (i + 1)))]) (wn := fun u : AR × AR × AR => wGh cy aO aL aN aT aK aI o rw rf1 lg sg N T1 K I ++ wMd cy am o2 ss u.1 im wa le ro u.2.1 u.2.2 nu) F hK hA hP hD hS (gP_right hP) (gD_right hD) (fun u H1 hk h1 _ => gJ_right hP hD hk h1 rfl) (c_X4_tell l D cy am o2 ss mm im wa le ro re fa nu (sv xs (i + 1)) _ h) (cwV 1 F.2.2.2.2 (gG_V k1033 k1034 k1035 k67 k1036) rfl rfl rfl hd_X4_tell ⟨Nat.le_of_ble_eq_true rfl, Nat.le_of_ble_eq_true rfl⟩) rfl rfl dL_law_789 rfl rfl hl.1 (Nat.le_of_ble_eq_true rfl) ⟨Nat.le_of_ble_eq_true rfl, Nat.le_of_ble_eq_true rfl⟩ (fun r2 u H locs h hP hD hS => ?_)
  obtain ⟨mm1, re1, fa1⟩ := u
  try dsimp only at h hP hD
  refine lv_icmp_eq (tgt := 1126) F.1 F.2.1 dL_law_792 (by decide) (fun _ => ?_) (fun c9 => absurd (by rw [h.1]) c9)
  exact ih o rw rf1 lg sg N T1 K I o2 ss mm1 im wa le ro re1 fa1 nu H locs ls h.2 hP hD hS hl
set_option maxHeartbeats 4000000 in
set_option maxRecDepth 20000 in
theorem lw_spreads {p : Program} {l : Launch} {e : Env} {s : State} {m : MethodId} {below : List Frame} {meth : Method} {c : Code} {b L : Nat} {xs : Nat → Int32} {D : va_G} {cy : ClassId} {kS vS : Nat} {aO aL aN aT aK aI am : Nat → Nat} {o : AR} {rw : AR} {rf : AR} {lg : AR} {sg : AR} {N : MS} {T : MS} {K : MS} {I : MS} {o2 : AR} {ss : AR} {mm : AR} {im : AR} {wa : AR} {le : AR} {ro : AR} {re : AR} {fa : AR} {nu : AR} (F : CallFix p m c cL_law 4 s #[Value.ref b] gT RL) (hX : va_X b L xs s s.heap) (hbl : b < s.heap.size) (hL : L ≤ 2048) (hK : va_K D vwCl [(cy, .int)] s) (hG : gStr kS vS (fun q : Nat => s.heap.size ≤ q) s s.heap) (i : Int) (hi : 0 ≤ i ∧ i + 3 < L) (ih : ∀ (o : AR) (rw : AR) (rf : AR) (lg : AR) (sg : AR) (N : MS) (T : MS) (K : MS) (I : MS) (o2 : AR) (ss : AR) (mm : AR) (im : AR) (wa : AR) (le : AR) (ro : AR) (re : AR) (fa : AR) (nu : AR) (H : Heap) (locs : List Loc) (ls : Array Slot), gInv o rw rf lg sg N T K I o2 ss mm im wa le ro re fa nu → va_P D vwCl (wGh cy aO aL aN aT aK aI o rw rf lg sg N T K I ++ wMd cy am o2 ss mm im wa le ro re fa nu) H → va_D (fun q : Nat => s.heap.size ≤ q) (wGh cy aO aL aN aT aK aI o rw rf lg sg N T K I ++ wMd cy am o2 ss mm im wa le ro re fa nu) → va_S (fun q : Nat => s.heap.size ≤ q) s.heap H locs → lv_has ls 4 [(0, .ref b), (1, .ref (aO 0)), (2, .ref (am 0)), (3, .int (iI i))] → W p l e room_1 s m #[Value.ref b] below meth c H locs 75 1865 (lw_Z below #[Value.ref b] s) (F0 m 1126 ls [])) {H : Heap} {locs : List Loc} {ls : Array Slot} (hI : gInv o rw rf lg sg N T K I o2 ss mm im wa le ro re fa nu) (hP : va_P D vwCl (wGh cy aO aL aN aT aK aI o rw rf lg sg N T K I ++ wMd cy am o2 ss mm im wa le ro re fa nu) H) (hD : va_D (fun q : Nat => s.heap.size ≤ q) (wGh cy aO aL aN aT aK aI o rw rf lg sg N T K I ++ wMd cy am o2 ss mm im wa le ro re fa nu)) (hS : va_S (fun q : Nat => s.heap.size ≤ q) s.heap H locs) (hl : lv_has ls 4 [(0, .ref b), (1, .ref (aO 0)), (2, .ref (am 0)), (3, .int (iI i))]) : W p l e room_1 s m #[Value.ref b] below meth c H locs 75 1865 (lw_Z below #[Value.ref b] s) (F0 m 797 ls []) := by
  have hA : ∀ q : Nat, s.heap.size ≤ q → (fun q : Nat => s.heap.size ≤ q) q := fun _ h => h
  have hbA : ¬ (fun q : Nat => s.heap.size ≤ q) b := Nat.not_le.mpr hbl
  have h := op_spreads hI (sv xs (i + 1)) (sv xs (i + 2)) (gR_toInt _) (gR_toInt _)
  refine lv_aload_n F.1 F.2.1 dL_law_797 rfl (lv_at hl 1 rfl) ?_
  refine lv_aload_n F.1 F.2.1 dL_law_798 rfl (lv_at hl 0 rfl) ?_
  refine lv_iload_n F.1 F.2.1 dL_law_799 rfl (lv_at hl 3 rfl) ?_
  refine gv_iconst F dL_law_800 ?_
  refine gv_iadd F dL_law_801 ?_
  refine gv_sld F hX hbl hbA hS hL ⟨by omega, by omega⟩ dL_law_802 ?_
  refine lv_aload_n F.1 F.2.1 dL_law_803 rfl (lv_at hl 0 rfl) ?_
  refine lv_iload_n F.1 F.2.1 dL_law_804 rfl (lv_at hl 3 rfl) ?_
  refine gv_iconst F dL_law_805 ?_
  refine gv_iadd F dL_law_806 ?_
  refine gv_sld F hX hbl hbA hS hL ⟨by omega, by omega⟩ dL_law_807 ?_
  refine gc_VI (As := [.int (iI (sv xs (i + 1))), .int (iI (sv xs (i + 2)))]) (wn := fun u : AR × MS => wGh cy aO aL aN aT aK aI o rw u.1 lg sg N u.2 K I ++ wMd cy am o2 ss mm im wa le ro re fa nu) F hK hA hP hD hS (gP_left hP) (gD_left hD) (fun u H1 hk h1 _ => gJ_left hP hD hk h1 gh_adr) (c_X3_spreads l D cy aO aL aN aT aK aI o rw rf lg sg N T K I (sv xs (i + 1)) (sv xs (i + 2)) _ h) (cwV 2 F.2.2.2.2 (gG_V k654 k655 k656 k61 k657) rfl rfl rfl hd_X3_spreads ⟨Nat.le_of_ble_eq_true rfl, Nat.le_of_ble_eq_true rfl⟩) rfl rfl dL_law_808 rfl rfl hl.1 (Nat.le_of_ble_eq_true rfl) ⟨Nat.le_of_ble_eq_true rfl, Nat.le_of_ble_eq_true rfl⟩ (fun r u H locs h hP hD hS => ?_)
  obtain ⟨rf1, T1⟩ := u
  try dsimp only at h hP hD
  refine lv_aload_n F.1 F.2.1 dL_law_811 rfl (lv_at hl 2 rfl) ?_
  refine lv_aload_n F.1 F.2.1 dL_law_812 rfl (lv_at hl 0 rfl) ?_
  refine lv_iload_n F.1 F.2.1 dL_law_813 rfl (lv_at hl 3 rfl) ?_
  refine gv_iconst F dL_law_814 ?_
  refine gv_iadd F dL_law_815 ?_
  refine gv_sld F hX hbl hbA hS hL ⟨by omega, by omega⟩ dL_law_816 ?_
  refine lv_aload_n F.1 F.2.1 dL_law_817 rfl (lv_at hl 0 rfl) ?_
  refine lv_iload_n F.1 F.2.1 dL_law_818 rfl (lv_at hl 3 rfl) ?_
  refine gv_iconst F dL_law_819 ?_
  refine gv_iadd F dL_law_820 ?_
  refine gv_sld F hX hbl hbA hS hL ⟨by omega, by omega⟩ dL_law_821 ?_
  refine gc_VI (As := [.int (iI (sv xs (i + 1))), .int (iI (sv xs (i + 2)))]) (wn := fun u : AR × AR × AR => wGh cy aO aL aN aT aK aI o rw rf1 lg sg N T1 K I ++ wMd cy am o2 ss u.1 im wa le ro u.2.1 u.2.2 nu) F hK hA hP hD hS (gP_right hP) (gD_right hD) (fun u H1 hk h1 _ => gJ_right hP hD hk h1 rfl) (c_X4_spreads l D cy am o2 ss mm im wa le ro re fa nu (sv xs (i + 1)) (sv xs (i + 2)) _ h) (cwV 2 F.2.2.2.2 (gG_V k1037 k1038 k1039 k67 k1040) rfl rfl rfl hd_X4_spreads ⟨Nat.le_of_ble_eq_true rfl, Nat.le_of_ble_eq_true rfl⟩) rfl rfl dL_law_822 rfl rfl hl.1 (Nat.le_of_ble_eq_true rfl) ⟨Nat.le_of_ble_eq_true rfl, Nat.le_of_ble_eq_true rfl⟩ (fun r2 u H locs h hP hD hS => ?_)
  obtain ⟨mm1, re1, fa1⟩ := u
  try dsimp only at h hP hD
  refine lv_icmp_eq (tgt := 1126) F.1 F.2.1 dL_law_825 (by decide) (fun _ => ?_) (fun c9 => absurd (by rw [h.1]) c9)
  exact ih o rw rf1 lg sg N T1 K I o2 ss mm1 im wa le ro re1 fa1 nu H locs ls h.2 hP hD hS hl
set_option maxHeartbeats 4000000 in
set_option maxRecDepth 20000 in
theorem lw_missing {p : Program} {l : Launch} {e : Env} {s : State} {m : MethodId} {below : List Frame} {meth : Method} {c : Code} {b L : Nat} {xs : Nat → Int32} {D : va_G} {cy : ClassId} {kS vS : Nat} {aO aL aN aT aK aI am : Nat → Nat} {o : AR} {rw : AR} {rf : AR} {lg : AR} {sg : AR} {N : MS} {T : MS} {K : MS} {I : MS} {o2 : AR} {ss : AR} {mm : AR} {im : AR} {wa : AR} {le : AR} {ro : AR} {re : AR} {fa : AR} {nu : AR} (F : CallFix p m c cL_law 4 s #[Value.ref b] gT RL) (hX : va_X b L xs s s.heap) (hbl : b < s.heap.size) (hL : L ≤ 2048) (hK : va_K D vwCl [(cy, .int)] s) (hG : gStr kS vS (fun q : Nat => s.heap.size ≤ q) s s.heap) (i : Int) (hi : 0 ≤ i ∧ i + 3 < L) (ih : ∀ (o : AR) (rw : AR) (rf : AR) (lg : AR) (sg : AR) (N : MS) (T : MS) (K : MS) (I : MS) (o2 : AR) (ss : AR) (mm : AR) (im : AR) (wa : AR) (le : AR) (ro : AR) (re : AR) (fa : AR) (nu : AR) (H : Heap) (locs : List Loc) (ls : Array Slot), gInv o rw rf lg sg N T K I o2 ss mm im wa le ro re fa nu → va_P D vwCl (wGh cy aO aL aN aT aK aI o rw rf lg sg N T K I ++ wMd cy am o2 ss mm im wa le ro re fa nu) H → va_D (fun q : Nat => s.heap.size ≤ q) (wGh cy aO aL aN aT aK aI o rw rf lg sg N T K I ++ wMd cy am o2 ss mm im wa le ro re fa nu) → va_S (fun q : Nat => s.heap.size ≤ q) s.heap H locs → lv_has ls 4 [(0, .ref b), (1, .ref (aO 0)), (2, .ref (am 0)), (3, .int (iI i))] → W p l e room_1 s m #[Value.ref b] below meth c H locs 75 1865 (lw_Z below #[Value.ref b] s) (F0 m 1126 ls [])) {H : Heap} {locs : List Loc} {ls : Array Slot} (hI : gInv o rw rf lg sg N T K I o2 ss mm im wa le ro re fa nu) (hP : va_P D vwCl (wGh cy aO aL aN aT aK aI o rw rf lg sg N T K I ++ wMd cy am o2 ss mm im wa le ro re fa nu) H) (hD : va_D (fun q : Nat => s.heap.size ≤ q) (wGh cy aO aL aN aT aK aI o rw rf lg sg N T K I ++ wMd cy am o2 ss mm im wa le ro re fa nu)) (hS : va_S (fun q : Nat => s.heap.size ≤ q) s.heap H locs) (hl : lv_has ls 4 [(0, .ref b), (1, .ref (aO 0)), (2, .ref (am 0)), (3, .int (iI i))]) : W p l e room_1 s m #[Value.ref b] below meth c H locs 75 1865 (lw_Z below #[Value.ref b] s) (F0 m 830 ls []) := by
  have hA : ∀ q : Nat, s.heap.size ≤ q → (fun q : Nat => s.heap.size ≤ q) q := fun _ h => h
  have hbA : ¬ (fun q : Nat => s.heap.size ≤ q) b := Nat.not_le.mpr hbl
  have h := op_missing hI (sv xs (i + 1)) (sv xs (i + 2)) (gR_toInt _) (gR_toInt _)
  refine lv_aload_n F.1 F.2.1 dL_law_830 rfl (lv_at hl 1 rfl) ?_
  refine lv_aload_n F.1 F.2.1 dL_law_831 rfl (lv_at hl 0 rfl) ?_
  refine lv_iload_n F.1 F.2.1 dL_law_832 rfl (lv_at hl 3 rfl) ?_
  refine gv_iconst F dL_law_833 ?_
  refine gv_iadd F dL_law_834 ?_
  refine gv_sld F hX hbl hbA hS hL ⟨by omega, by omega⟩ dL_law_835 ?_
  refine lv_aload_n F.1 F.2.1 dL_law_836 rfl (lv_at hl 0 rfl) ?_
  refine lv_iload_n F.1 F.2.1 dL_law_837 rfl (lv_at hl 3 rfl) ?_
  refine gv_iconst F dL_law_838 ?_
  refine gv_iadd F dL_law_839 ?_
  refine gv_sld F hX hbl hbA hS hL ⟨by omega, by omega⟩ dL_law_840 ?_
  refine gc_VI (As := [.int (iI (sv xs (i + 1))), .int (iI (sv xs (i + 2)))]) (wn := fun u : AR × MS => wGh cy aO aL aN aT aK aI o rw u.1 lg sg N u.2 K I ++ wMd cy am o2 ss mm im wa le ro re fa nu) F hK hA hP hD hS (gP_left hP) (gD_left hD) (fun u H1 hk h1 _ => gJ_left hP hD hk h1 gh_adr) (c_X3_missing l D cy aO aL aN aT aK aI o rw rf lg sg N T K I (sv xs (i + 1)) (sv xs (i + 2)) _ h) (cwV 2 F.2.2.2.2 (gG_V k658 k659 k660 k61 k661) rfl rfl rfl hd_X3_missing ⟨Nat.le_of_ble_eq_true rfl, Nat.le_of_ble_eq_true rfl⟩) rfl rfl dL_law_841 rfl rfl hl.1 (Nat.le_of_ble_eq_true rfl) ⟨Nat.le_of_ble_eq_true rfl, Nat.le_of_ble_eq_true rfl⟩ (fun r u H locs h hP hD hS => ?_)
  obtain ⟨rf1, T1⟩ := u
  try dsimp only at h hP hD
  refine lv_aload_n F.1 F.2.1 dL_law_844 rfl (lv_at hl 2 rfl) ?_
  refine lv_aload_n F.1 F.2.1 dL_law_845 rfl (lv_at hl 0 rfl) ?_
  refine lv_iload_n F.1 F.2.1 dL_law_846 rfl (lv_at hl 3 rfl) ?_
  refine gv_iconst F dL_law_847 ?_
  refine gv_iadd F dL_law_848 ?_
  refine gv_sld F hX hbl hbA hS hL ⟨by omega, by omega⟩ dL_law_849 ?_
  refine lv_aload_n F.1 F.2.1 dL_law_850 rfl (lv_at hl 0 rfl) ?_
  refine lv_iload_n F.1 F.2.1 dL_law_851 rfl (lv_at hl 3 rfl) ?_
  refine gv_iconst F dL_law_852 ?_
  refine gv_iadd F dL_law_853 ?_
  refine gv_sld F hX hbl hbA hS hL ⟨by omega, by omega⟩ dL_law_854 ?_
  refine gc_VI (As := [.int (iI (sv xs (i + 1))), .int (iI (sv xs (i + 2)))]) (wn := fun u : AR × AR × AR => wGh cy aO aL aN aT aK aI o rw rf1 lg sg N T1 K I ++ wMd cy am o2 ss u.1 im wa le ro u.2.1 u.2.2 nu) F hK hA hP hD hS (gP_right hP) (gD_right hD) (fun u H1 hk h1 _ => gJ_right hP hD hk h1 rfl) (c_X4_missing l D cy am o2 ss mm im wa le ro re fa nu (sv xs (i + 1)) (sv xs (i + 2)) _ h) (cwV 2 F.2.2.2.2 (gG_V k1041 k1042 k1043 k67 k1044) rfl rfl rfl hd_X4_missing ⟨Nat.le_of_ble_eq_true rfl, Nat.le_of_ble_eq_true rfl⟩) rfl rfl dL_law_855 rfl rfl hl.1 (Nat.le_of_ble_eq_true rfl) ⟨Nat.le_of_ble_eq_true rfl, Nat.le_of_ble_eq_true rfl⟩ (fun r2 u H locs h hP hD hS => ?_)
  obtain ⟨mm1, re1, fa1⟩ := u
  try dsimp only at h hP hD
  refine lv_icmp_eq (tgt := 1126) F.1 F.2.1 dL_law_858 (by decide) (fun _ => ?_) (fun c9 => absurd (by rw [h.1]) c9)
  exact ih o rw rf1 lg sg N T1 K I o2 ss mm1 im wa le ro re1 fa1 nu H locs ls h.2 hP hD hS hl
set_option maxHeartbeats 4000000 in
set_option maxRecDepth 20000 in
theorem lw_worth {p : Program} {l : Launch} {e : Env} {s : State} {m : MethodId} {below : List Frame} {meth : Method} {c : Code} {b L : Nat} {xs : Nat → Int32} {D : va_G} {cy : ClassId} {kS vS : Nat} {aO aL aN aT aK aI am : Nat → Nat} {o : AR} {rw : AR} {rf : AR} {lg : AR} {sg : AR} {N : MS} {T : MS} {K : MS} {I : MS} {o2 : AR} {ss : AR} {mm : AR} {im : AR} {wa : AR} {le : AR} {ro : AR} {re : AR} {fa : AR} {nu : AR} (F : CallFix p m c cL_law 4 s #[Value.ref b] gT RL) (hX : va_X b L xs s s.heap) (hbl : b < s.heap.size) (hL : L ≤ 2048) (hK : va_K D vwCl [(cy, .int)] s) (hG : gStr kS vS (fun q : Nat => s.heap.size ≤ q) s s.heap) (i : Int) (hi : 0 ≤ i ∧ i + 3 < L) (ih : ∀ (o : AR) (rw : AR) (rf : AR) (lg : AR) (sg : AR) (N : MS) (T : MS) (K : MS) (I : MS) (o2 : AR) (ss : AR) (mm : AR) (im : AR) (wa : AR) (le : AR) (ro : AR) (re : AR) (fa : AR) (nu : AR) (H : Heap) (locs : List Loc) (ls : Array Slot), gInv o rw rf lg sg N T K I o2 ss mm im wa le ro re fa nu → va_P D vwCl (wGh cy aO aL aN aT aK aI o rw rf lg sg N T K I ++ wMd cy am o2 ss mm im wa le ro re fa nu) H → va_D (fun q : Nat => s.heap.size ≤ q) (wGh cy aO aL aN aT aK aI o rw rf lg sg N T K I ++ wMd cy am o2 ss mm im wa le ro re fa nu) → va_S (fun q : Nat => s.heap.size ≤ q) s.heap H locs → lv_has ls 4 [(0, .ref b), (1, .ref (aO 0)), (2, .ref (am 0)), (3, .int (iI i))] → W p l e room_1 s m #[Value.ref b] below meth c H locs 75 1865 (lw_Z below #[Value.ref b] s) (F0 m 1126 ls [])) {H : Heap} {locs : List Loc} {ls : Array Slot} (hI : gInv o rw rf lg sg N T K I o2 ss mm im wa le ro re fa nu) (hP : va_P D vwCl (wGh cy aO aL aN aT aK aI o rw rf lg sg N T K I ++ wMd cy am o2 ss mm im wa le ro re fa nu) H) (hD : va_D (fun q : Nat => s.heap.size ≤ q) (wGh cy aO aL aN aT aK aI o rw rf lg sg N T K I ++ wMd cy am o2 ss mm im wa le ro re fa nu)) (hS : va_S (fun q : Nat => s.heap.size ≤ q) s.heap H locs) (hl : lv_has ls 4 [(0, .ref b), (1, .ref (aO 0)), (2, .ref (am 0)), (3, .int (iI i))]) : W p l e room_1 s m #[Value.ref b] below meth c H locs 75 1865 (lw_Z below #[Value.ref b] s) (F0 m 863 ls []) := by
  have hA : ∀ q : Nat, s.heap.size ≤ q → (fun q : Nat => s.heap.size ≤ q) q := fun _ h => h
  have hbA : ¬ (fun q : Nat => s.heap.size ≤ q) b := Nat.not_le.mpr hbl
  have h := op_worth hI (sv xs (i + 1)) (gR_toInt _)
  refine lv_aload_n F.1 F.2.1 dL_law_863 rfl (lv_at hl 1 rfl) ?_
  refine lv_aload_n F.1 F.2.1 dL_law_864 rfl (lv_at hl 0 rfl) ?_
  refine lv_iload_n F.1 F.2.1 dL_law_865 rfl (lv_at hl 3 rfl) ?_
  refine gv_iconst F dL_law_866 ?_
  refine gv_iadd F dL_law_867 ?_
  refine gv_sld F hX hbl hbA hS hL ⟨by omega, by omega⟩ dL_law_868 ?_
  refine gc_VI (As := [.int (iI (sv xs (i + 1)))]) (wn := fun u : AR × MS => wGh cy aO aL aN aT aK aI o rw u.1 lg sg N u.2 K I ++ wMd cy am o2 ss mm im wa le ro re fa nu) F hK hA hP hD hS (gP_left hP) (gD_left hD) (fun u H1 hk h1 _ => gJ_left hP hD hk h1 gh_adr) (c_X3_worth l D cy aO aL aN aT aK aI o rw rf lg sg N T K I (sv xs (i + 1)) _ h) (cwV 1 F.2.2.2.2 (gG_V k662 k663 k664 k61 k665) rfl rfl rfl hd_X3_worth ⟨Nat.le_of_ble_eq_true rfl, Nat.le_of_ble_eq_true rfl⟩) rfl rfl dL_law_869 rfl rfl hl.1 (Nat.le_of_ble_eq_true rfl) ⟨Nat.le_of_ble_eq_true rfl, Nat.le_of_ble_eq_true rfl⟩ (fun r u H locs h hP hD hS => ?_)
  obtain ⟨rf1, T1⟩ := u
  try dsimp only at h hP hD
  refine lv_aload_n F.1 F.2.1 dL_law_872 rfl (lv_at hl 2 rfl) ?_
  refine lv_aload_n F.1 F.2.1 dL_law_873 rfl (lv_at hl 0 rfl) ?_
  refine lv_iload_n F.1 F.2.1 dL_law_874 rfl (lv_at hl 3 rfl) ?_
  refine gv_iconst F dL_law_875 ?_
  refine gv_iadd F dL_law_876 ?_
  refine gv_sld F hX hbl hbA hS hL ⟨by omega, by omega⟩ dL_law_877 ?_
  refine gc_VI (As := [.int (iI (sv xs (i + 1)))]) (wn := fun u : AR × AR × AR => wGh cy aO aL aN aT aK aI o rw rf1 lg sg N T1 K I ++ wMd cy am o2 ss u.1 im wa le ro u.2.1 u.2.2 nu) F hK hA hP hD hS (gP_right hP) (gD_right hD) (fun u H1 hk h1 _ => gJ_right hP hD hk h1 rfl) (c_X4_worth l D cy am o2 ss mm im wa le ro re fa nu (sv xs (i + 1)) _ h) (cwV 1 F.2.2.2.2 (gG_V k1045 k1046 k1047 k67 k1048) rfl rfl rfl hd_X4_worth ⟨Nat.le_of_ble_eq_true rfl, Nat.le_of_ble_eq_true rfl⟩) rfl rfl dL_law_878 rfl rfl hl.1 (Nat.le_of_ble_eq_true rfl) ⟨Nat.le_of_ble_eq_true rfl, Nat.le_of_ble_eq_true rfl⟩ (fun r2 u H locs h hP hD hS => ?_)
  obtain ⟨mm1, re1, fa1⟩ := u
  try dsimp only at h hP hD
  refine lv_icmp_eq (tgt := 1126) F.1 F.2.1 dL_law_881 (by decide) (fun _ => ?_) (fun c9 => absurd (by rw [h.1]) c9)
  exact ih o rw rf1 lg sg N T1 K I o2 ss mm1 im wa le ro re1 fa1 nu H locs ls h.2 hP hD hS hl
set_option maxHeartbeats 4000000 in
set_option maxRecDepth 20000 in
theorem lw_two {p : Program} {l : Launch} {e : Env} {s : State} {m : MethodId} {below : List Frame} {meth : Method} {c : Code} {b L : Nat} {xs : Nat → Int32} {D : va_G} {cy : ClassId} {kS vS : Nat} {aO aL aN aT aK aI am : Nat → Nat} {o : AR} {rw : AR} {rf : AR} {lg : AR} {sg : AR} {N : MS} {T : MS} {K : MS} {I : MS} {o2 : AR} {ss : AR} {mm : AR} {im : AR} {wa : AR} {le : AR} {ro : AR} {re : AR} {fa : AR} {nu : AR} (F : CallFix p m c cL_law 4 s #[Value.ref b] gT RL) (hX : va_X b L xs s s.heap) (hbl : b < s.heap.size) (hL : L ≤ 2048) (hK : va_K D vwCl [(cy, .int)] s) (hG : gStr kS vS (fun q : Nat => s.heap.size ≤ q) s s.heap) (i : Int) (hi : 0 ≤ i ∧ i + 3 < L) (ih : ∀ (o : AR) (rw : AR) (rf : AR) (lg : AR) (sg : AR) (N : MS) (T : MS) (K : MS) (I : MS) (o2 : AR) (ss : AR) (mm : AR) (im : AR) (wa : AR) (le : AR) (ro : AR) (re : AR) (fa : AR) (nu : AR) (H : Heap) (locs : List Loc) (ls : Array Slot), gInv o rw rf lg sg N T K I o2 ss mm im wa le ro re fa nu → va_P D vwCl (wGh cy aO aL aN aT aK aI o rw rf lg sg N T K I ++ wMd cy am o2 ss mm im wa le ro re fa nu) H → va_D (fun q : Nat => s.heap.size ≤ q) (wGh cy aO aL aN aT aK aI o rw rf lg sg N T K I ++ wMd cy am o2 ss mm im wa le ro re fa nu) → va_S (fun q : Nat => s.heap.size ≤ q) s.heap H locs → lv_has ls 4 [(0, .ref b), (1, .ref (aO 0)), (2, .ref (am 0)), (3, .int (iI i))] → W p l e room_1 s m #[Value.ref b] below meth c H locs 75 1865 (lw_Z below #[Value.ref b] s) (F0 m 1126 ls [])) {H : Heap} {locs : List Loc} {ls : Array Slot} (hI : gInv o rw rf lg sg N T K I o2 ss mm im wa le ro re fa nu) (hP : va_P D vwCl (wGh cy aO aL aN aT aK aI o rw rf lg sg N T K I ++ wMd cy am o2 ss mm im wa le ro re fa nu) H) (hD : va_D (fun q : Nat => s.heap.size ≤ q) (wGh cy aO aL aN aT aK aI o rw rf lg sg N T K I ++ wMd cy am o2 ss mm im wa le ro re fa nu)) (hS : va_S (fun q : Nat => s.heap.size ≤ q) s.heap H locs) (hl : lv_has ls 4 [(0, .ref b), (1, .ref (aO 0)), (2, .ref (am 0)), (3, .int (iI i))]) : W p l e room_1 s m #[Value.ref b] below meth c H locs 75 1865 (lw_Z below #[Value.ref b] s) (F0 m 886 ls []) := by
  have hA : ∀ q : Nat, s.heap.size ≤ q → (fun q : Nat => s.heap.size ≤ q) q := fun _ h => h
  have hbA : ¬ (fun q : Nat => s.heap.size ≤ q) b := Nat.not_le.mpr hbl
  have h := op_two hI (sv xs (i + 1)) (sv xs (i + 2)) (gR_toInt _) (gR_toInt _)
  refine lv_aload_n F.1 F.2.1 dL_law_886 rfl (lv_at hl 1 rfl) ?_
  refine lv_aload_n F.1 F.2.1 dL_law_887 rfl (lv_at hl 0 rfl) ?_
  refine lv_iload_n F.1 F.2.1 dL_law_888 rfl (lv_at hl 3 rfl) ?_
  refine gv_iconst F dL_law_889 ?_
  refine gv_iadd F dL_law_890 ?_
  refine gv_sld F hX hbl hbA hS hL ⟨by omega, by omega⟩ dL_law_891 ?_
  refine lv_aload_n F.1 F.2.1 dL_law_892 rfl (lv_at hl 0 rfl) ?_
  refine lv_iload_n F.1 F.2.1 dL_law_893 rfl (lv_at hl 3 rfl) ?_
  refine gv_iconst F dL_law_894 ?_
  refine gv_iadd F dL_law_895 ?_
  refine gv_sld F hX hbl hbA hS hL ⟨by omega, by omega⟩ dL_law_896 ?_
  refine gc_VI (As := [.int (iI (sv xs (i + 1))), .int (iI (sv xs (i + 2)))]) (wn := fun u : AR × MS => wGh cy aO aL aN aT aK aI o rw u.1 lg sg N u.2 K I ++ wMd cy am o2 ss mm im wa le ro re fa nu) F hK hA hP hD hS (gP_left hP) (gD_left hD) (fun u H1 hk h1 _ => gJ_left hP hD hk h1 gh_adr) (c_X3_two l D cy aO aL aN aT aK aI o rw rf lg sg N T K I (sv xs (i + 1)) (sv xs (i + 2)) _ h) (cwV 2 F.2.2.2.2 (gG_V k671 k672 k673 k61 k674) rfl rfl rfl hd_X3_two ⟨Nat.le_of_ble_eq_true rfl, Nat.le_of_ble_eq_true rfl⟩) rfl rfl dL_law_897 rfl rfl hl.1 (Nat.le_of_ble_eq_true rfl) ⟨Nat.le_of_ble_eq_true rfl, Nat.le_of_ble_eq_true rfl⟩ (fun r u H locs h hP hD hS => ?_)
  obtain ⟨rf1, T1⟩ := u
  try dsimp only at h hP hD
  refine lv_aload_n F.1 F.2.1 dL_law_900 rfl (lv_at hl 2 rfl) ?_
  refine lv_aload_n F.1 F.2.1 dL_law_901 rfl (lv_at hl 0 rfl) ?_
  refine lv_iload_n F.1 F.2.1 dL_law_902 rfl (lv_at hl 3 rfl) ?_
  refine gv_iconst F dL_law_903 ?_
  refine gv_iadd F dL_law_904 ?_
  refine gv_sld F hX hbl hbA hS hL ⟨by omega, by omega⟩ dL_law_905 ?_
  refine lv_aload_n F.1 F.2.1 dL_law_906 rfl (lv_at hl 0 rfl) ?_
  refine lv_iload_n F.1 F.2.1 dL_law_907 rfl (lv_at hl 3 rfl) ?_
  refine gv_iconst F dL_law_908 ?_
  refine gv_iadd F dL_law_909 ?_
  refine gv_sld F hX hbl hbA hS hL ⟨by omega, by omega⟩ dL_law_910 ?_
  refine gc_VI (As := [.int (iI (sv xs (i + 1))), .int (iI (sv xs (i + 2)))]) (wn := fun u : AR × AR × AR => wGh cy aO aL aN aT aK aI o rw rf1 lg sg N T1 K I ++ wMd cy am o2 ss u.1 im wa le ro u.2.1 u.2.2 nu) F hK hA hP hD hS (gP_right hP) (gD_right hD) (fun u H1 hk h1 _ => gJ_right hP hD hk h1 rfl) (c_X4_two l D cy am o2 ss mm im wa le ro re fa nu (sv xs (i + 1)) (sv xs (i + 2)) _ h) (cwV 2 F.2.2.2.2 (gG_V k1057 k1058 k1059 k67 k1060) rfl rfl rfl hd_X4_two ⟨Nat.le_of_ble_eq_true rfl, Nat.le_of_ble_eq_true rfl⟩) rfl rfl dL_law_911 rfl rfl hl.1 (Nat.le_of_ble_eq_true rfl) ⟨Nat.le_of_ble_eq_true rfl, Nat.le_of_ble_eq_true rfl⟩ (fun r2 u H locs h hP hD hS => ?_)
  obtain ⟨mm1, re1, fa1⟩ := u
  try dsimp only at h hP hD
  refine lv_icmp_eq (tgt := 1126) F.1 F.2.1 dL_law_914 (by decide) (fun _ => ?_) (fun c9 => absurd (by rw [h.1]) c9)
  exact ih o rw rf1 lg sg N T1 K I o2 ss mm1 im wa le ro re1 fa1 nu H locs ls h.2 hP hD hS hl
set_option maxHeartbeats 4000000 in
set_option maxRecDepth 20000 in
theorem lw_newDoor {p : Program} {l : Launch} {e : Env} {s : State} {m : MethodId} {below : List Frame} {meth : Method} {c : Code} {b L : Nat} {xs : Nat → Int32} {D : va_G} {cy : ClassId} {kS vS : Nat} {aO aL aN aT aK aI am : Nat → Nat} {o : AR} {rw : AR} {rf : AR} {lg : AR} {sg : AR} {N : MS} {T : MS} {K : MS} {I : MS} {o2 : AR} {ss : AR} {mm : AR} {im : AR} {wa : AR} {le : AR} {ro : AR} {re : AR} {fa : AR} {nu : AR} (F : CallFix p m c cL_law 4 s #[Value.ref b] gT RL) (hX : va_X b L xs s s.heap) (hbl : b < s.heap.size) (hL : L ≤ 2048) (hK : va_K D vwCl [(cy, .int)] s) (hG : gStr kS vS (fun q : Nat => s.heap.size ≤ q) s s.heap) (i : Int) (hi : 0 ≤ i ∧ i + 3 < L) (ih : ∀ (o : AR) (rw : AR) (rf : AR) (lg : AR) (sg : AR) (N : MS) (T : MS) (K : MS) (I : MS) (o2 : AR) (ss : AR) (mm : AR) (im : AR) (wa : AR) (le : AR) (ro : AR) (re : AR) (fa : AR) (nu : AR) (H : Heap) (locs : List Loc) (ls : Array Slot), gInv o rw rf lg sg N T K I o2 ss mm im wa le ro re fa nu → va_P D vwCl (wGh cy aO aL aN aT aK aI o rw rf lg sg N T K I ++ wMd cy am o2 ss mm im wa le ro re fa nu) H → va_D (fun q : Nat => s.heap.size ≤ q) (wGh cy aO aL aN aT aK aI o rw rf lg sg N T K I ++ wMd cy am o2 ss mm im wa le ro re fa nu) → va_S (fun q : Nat => s.heap.size ≤ q) s.heap H locs → lv_has ls 4 [(0, .ref b), (1, .ref (aO 0)), (2, .ref (am 0)), (3, .int (iI i))] → W p l e room_1 s m #[Value.ref b] below meth c H locs 75 1865 (lw_Z below #[Value.ref b] s) (F0 m 1126 ls [])) {H : Heap} {locs : List Loc} {ls : Array Slot} (hI : gInv o rw rf lg sg N T K I o2 ss mm im wa le ro re fa nu) (hP : va_P D vwCl (wGh cy aO aL aN aT aK aI o rw rf lg sg N T K I ++ wMd cy am o2 ss mm im wa le ro re fa nu) H) (hD : va_D (fun q : Nat => s.heap.size ≤ q) (wGh cy aO aL aN aT aK aI o rw rf lg sg N T K I ++ wMd cy am o2 ss mm im wa le ro re fa nu)) (hS : va_S (fun q : Nat => s.heap.size ≤ q) s.heap H locs) (hl : lv_has ls 4 [(0, .ref b), (1, .ref (aO 0)), (2, .ref (am 0)), (3, .int (iI i))]) : W p l e room_1 s m #[Value.ref b] below meth c H locs 75 1865 (lw_Z below #[Value.ref b] s) (F0 m 919 ls []) := by
  have hA : ∀ q : Nat, s.heap.size ≤ q → (fun q : Nat => s.heap.size ≤ q) q := fun _ h => h
  have hbA : ¬ (fun q : Nat => s.heap.size ≤ q) b := Nat.not_le.mpr hbl
  have h := op_newDoor hI  
  refine lv_aload_n F.1 F.2.1 dL_law_919 rfl (lv_at hl 1 rfl) ?_
  refine gc_VI (As := []) (wn := fun u : MS => wGh cy aO aL aN aT aK aI o rw rf lg sg N u K I ++ wMd cy am o2 ss mm im wa le ro re fa nu) F hK hA hP hD hS (gP_left hP) (gD_left hD) (fun u H1 hk h1 _ => gJ_left hP hD hk h1 gh_adr) (c_X3_newDoor l D cy aO aL aN aT aK aI o rw rf lg sg N T K I  _ h) (cwV 0 F.2.2.2.2 (gG_V k687 k688 k689 k61 k690) rfl rfl rfl hd_X3_newDoor ⟨Nat.le_of_ble_eq_true rfl, Nat.le_of_ble_eq_true rfl⟩) rfl rfl dL_law_920 rfl rfl hl.1 (Nat.le_of_ble_eq_true rfl) ⟨Nat.le_of_ble_eq_true rfl, Nat.le_of_ble_eq_true rfl⟩ (fun r u H locs h hP hD hS => ?_)
  obtain ⟨T1, rfl⟩ : ∃ z, z = u := ⟨_, rfl⟩
  try dsimp only at h hP hD
  refine lv_aload_n F.1 F.2.1 dL_law_923 rfl (lv_at hl 2 rfl) ?_
  refine gc_VI (As := []) (wn := fun u : AR × AR => wGh cy aO aL aN aT aK aI o rw rf lg sg N T1 K I ++ wMd cy am o2 ss u.1 im wa le ro re u.2 nu) F hK hA hP hD hS (gP_right hP) (gD_right hD) (fun u H1 hk h1 _ => gJ_right hP hD hk h1 rfl) (c_X4_newDoor l D cy am o2 ss mm im wa le ro re fa nu  _ h) (cwV 0 F.2.2.2.2 (gG_V k1065 k1066 k1067 k67 k1068) rfl rfl rfl hd_X4_newDoor ⟨Nat.le_of_ble_eq_true rfl, Nat.le_of_ble_eq_true rfl⟩) rfl rfl dL_law_924 rfl rfl hl.1 (Nat.le_of_ble_eq_true rfl) ⟨Nat.le_of_ble_eq_true rfl, Nat.le_of_ble_eq_true rfl⟩ (fun r2 u H locs h hP hD hS => ?_)
  obtain ⟨mm1, fa1⟩ := u
  try dsimp only at h hP hD
  refine lv_icmp_eq (tgt := 1126) F.1 F.2.1 dL_law_927 (by decide) (fun _ => ?_) (fun c9 => absurd (by rw [h.1]) c9)
  exact ih o rw rf lg sg N T1 K I o2 ss mm1 im wa le ro re fa1 nu H locs ls h.2 hP hD hS hl
set_option maxHeartbeats 4000000 in
set_option maxRecDepth 20000 in
theorem lw_which {p : Program} {l : Launch} {e : Env} {s : State} {m : MethodId} {below : List Frame} {meth : Method} {c : Code} {b L : Nat} {xs : Nat → Int32} {D : va_G} {cy : ClassId} {kS vS : Nat} {aO aL aN aT aK aI am : Nat → Nat} {o : AR} {rw : AR} {rf : AR} {lg : AR} {sg : AR} {N : MS} {T : MS} {K : MS} {I : MS} {o2 : AR} {ss : AR} {mm : AR} {im : AR} {wa : AR} {le : AR} {ro : AR} {re : AR} {fa : AR} {nu : AR} (F : CallFix p m c cL_law 4 s #[Value.ref b] gT RL) (hX : va_X b L xs s s.heap) (hbl : b < s.heap.size) (hL : L ≤ 2048) (hK : va_K D vwCl [(cy, .int)] s) (hG : gStr kS vS (fun q : Nat => s.heap.size ≤ q) s s.heap) (i : Int) (hi : 0 ≤ i ∧ i + 3 < L) (ih : ∀ (o : AR) (rw : AR) (rf : AR) (lg : AR) (sg : AR) (N : MS) (T : MS) (K : MS) (I : MS) (o2 : AR) (ss : AR) (mm : AR) (im : AR) (wa : AR) (le : AR) (ro : AR) (re : AR) (fa : AR) (nu : AR) (H : Heap) (locs : List Loc) (ls : Array Slot), gInv o rw rf lg sg N T K I o2 ss mm im wa le ro re fa nu → va_P D vwCl (wGh cy aO aL aN aT aK aI o rw rf lg sg N T K I ++ wMd cy am o2 ss mm im wa le ro re fa nu) H → va_D (fun q : Nat => s.heap.size ≤ q) (wGh cy aO aL aN aT aK aI o rw rf lg sg N T K I ++ wMd cy am o2 ss mm im wa le ro re fa nu) → va_S (fun q : Nat => s.heap.size ≤ q) s.heap H locs → lv_has ls 4 [(0, .ref b), (1, .ref (aO 0)), (2, .ref (am 0)), (3, .int (iI i))] → W p l e room_1 s m #[Value.ref b] below meth c H locs 75 1865 (lw_Z below #[Value.ref b] s) (F0 m 1126 ls [])) {H : Heap} {locs : List Loc} {ls : Array Slot} (hI : gInv o rw rf lg sg N T K I o2 ss mm im wa le ro re fa nu) (hP : va_P D vwCl (wGh cy aO aL aN aT aK aI o rw rf lg sg N T K I ++ wMd cy am o2 ss mm im wa le ro re fa nu) H) (hD : va_D (fun q : Nat => s.heap.size ≤ q) (wGh cy aO aL aN aT aK aI o rw rf lg sg N T K I ++ wMd cy am o2 ss mm im wa le ro re fa nu)) (hS : va_S (fun q : Nat => s.heap.size ≤ q) s.heap H locs) (hl : lv_has ls 4 [(0, .ref b), (1, .ref (aO 0)), (2, .ref (am 0)), (3, .int (iI i))]) : W p l e room_1 s m #[Value.ref b] below meth c H locs 75 1865 (lw_Z below #[Value.ref b] s) (F0 m 932 ls []) := by
  have hA : ∀ q : Nat, s.heap.size ≤ q → (fun q : Nat => s.heap.size ≤ q) q := fun _ h => h
  have hbA : ¬ (fun q : Nat => s.heap.size ≤ q) b := Nat.not_le.mpr hbl
  have h := op_which hI (sv xs (i + 1)) (sv xs (i + 2)) (sv xs (i + 3)) (gR_toInt _) (gR_toInt _) (gR_toInt _)
  refine lv_aload_n F.1 F.2.1 dL_law_932 rfl (lv_at hl 1 rfl) ?_
  refine lv_aload_n F.1 F.2.1 dL_law_933 rfl (lv_at hl 0 rfl) ?_
  refine lv_iload_n F.1 F.2.1 dL_law_934 rfl (lv_at hl 3 rfl) ?_
  refine gv_iconst F dL_law_935 ?_
  refine gv_iadd F dL_law_936 ?_
  refine gv_sld F hX hbl hbA hS hL ⟨by omega, by omega⟩ dL_law_937 ?_
  refine lv_aload_n F.1 F.2.1 dL_law_938 rfl (lv_at hl 0 rfl) ?_
  refine lv_iload_n F.1 F.2.1 dL_law_939 rfl (lv_at hl 3 rfl) ?_
  refine gv_iconst F dL_law_940 ?_
  refine gv_iadd F dL_law_941 ?_
  refine gv_sld F hX hbl hbA hS hL ⟨by omega, by omega⟩ dL_law_942 ?_
  refine lv_aload_n F.1 F.2.1 dL_law_943 rfl (lv_at hl 0 rfl) ?_
  refine lv_iload_n F.1 F.2.1 dL_law_944 rfl (lv_at hl 3 rfl) ?_
  refine gv_iconst F dL_law_945 ?_
  refine gv_iadd F dL_law_946 ?_
  refine gv_sld F hX hbl hbA hS hL ⟨by omega, by omega⟩ dL_law_947 ?_
  refine gc_VI (As := [.int (iI (sv xs (i + 1))), .int (iI (sv xs (i + 2))), .int (iI (sv xs (i + 3)))]) (wn := fun u : AR × MS => wGh cy aO aL aN aT aK aI o rw u.1 lg sg N u.2 K I ++ wMd cy am o2 ss mm im wa le ro re fa nu) F hK hA hP hD hS (gP_left hP) (gD_left hD) (fun u H1 hk h1 _ => gJ_left hP hD hk h1 gh_adr) (c_X3_which l D cy aO aL aN aT aK aI o rw rf lg sg N T K I (sv xs (i + 1)) (sv xs (i + 2)) (sv xs (i + 3)) _ h) (cwV 3 F.2.2.2.2 (gG_V k691 k692 k693 k61 k694) rfl rfl rfl hd_X3_which ⟨Nat.le_of_ble_eq_true rfl, Nat.le_of_ble_eq_true rfl⟩) rfl rfl dL_law_948 rfl rfl hl.1 (Nat.le_of_ble_eq_true rfl) ⟨Nat.le_of_ble_eq_true rfl, Nat.le_of_ble_eq_true rfl⟩ (fun r u H locs h hP hD hS => ?_)
  obtain ⟨rf1, T1⟩ := u
  try dsimp only at h hP hD
  refine lv_aload_n F.1 F.2.1 dL_law_951 rfl (lv_at hl 2 rfl) ?_
  refine lv_aload_n F.1 F.2.1 dL_law_952 rfl (lv_at hl 0 rfl) ?_
  refine lv_iload_n F.1 F.2.1 dL_law_953 rfl (lv_at hl 3 rfl) ?_
  refine gv_iconst F dL_law_954 ?_
  refine gv_iadd F dL_law_955 ?_
  refine gv_sld F hX hbl hbA hS hL ⟨by omega, by omega⟩ dL_law_956 ?_
  refine lv_aload_n F.1 F.2.1 dL_law_957 rfl (lv_at hl 0 rfl) ?_
  refine lv_iload_n F.1 F.2.1 dL_law_958 rfl (lv_at hl 3 rfl) ?_
  refine gv_iconst F dL_law_959 ?_
  refine gv_iadd F dL_law_960 ?_
  refine gv_sld F hX hbl hbA hS hL ⟨by omega, by omega⟩ dL_law_961 ?_
  refine lv_aload_n F.1 F.2.1 dL_law_962 rfl (lv_at hl 0 rfl) ?_
  refine lv_iload_n F.1 F.2.1 dL_law_963 rfl (lv_at hl 3 rfl) ?_
  refine gv_iconst F dL_law_964 ?_
  refine gv_iadd F dL_law_965 ?_
  refine gv_sld F hX hbl hbA hS hL ⟨by omega, by omega⟩ dL_law_966 ?_
  refine gc_VI (As := [.int (iI (sv xs (i + 1))), .int (iI (sv xs (i + 2))), .int (iI (sv xs (i + 3)))]) (wn := fun u : AR × AR × AR => wGh cy aO aL aN aT aK aI o rw rf1 lg sg N T1 K I ++ wMd cy am o2 ss u.1 im wa le ro u.2.1 u.2.2 nu) F hK hA hP hD hS (gP_right hP) (gD_right hD) (fun u H1 hk h1 _ => gJ_right hP hD hk h1 rfl) (c_X4_which l D cy am o2 ss mm im wa le ro re fa nu (sv xs (i + 1)) (sv xs (i + 2)) (sv xs (i + 3)) _ h) (cwV 3 F.2.2.2.2 (gG_V k1073 k1074 k1075 k67 k1076) rfl rfl rfl hd_X4_which ⟨Nat.le_of_ble_eq_true rfl, Nat.le_of_ble_eq_true rfl⟩) rfl rfl dL_law_967 rfl rfl hl.1 (Nat.le_of_ble_eq_true rfl) ⟨Nat.le_of_ble_eq_true rfl, Nat.le_of_ble_eq_true rfl⟩ (fun r2 u H locs h hP hD hS => ?_)
  obtain ⟨mm1, re1, fa1⟩ := u
  try dsimp only at h hP hD
  refine lv_icmp_eq (tgt := 1126) F.1 F.2.1 dL_law_970 (by decide) (fun _ => ?_) (fun c9 => absurd (by rw [h.1]) c9)
  exact ih o rw rf1 lg sg N T1 K I o2 ss mm1 im wa le ro re1 fa1 nu H locs ls h.2 hP hD hS hl
set_option maxHeartbeats 4000000 in
set_option maxRecDepth 20000 in
theorem lw_row {p : Program} {l : Launch} {e : Env} {s : State} {m : MethodId} {below : List Frame} {meth : Method} {c : Code} {b L : Nat} {xs : Nat → Int32} {D : va_G} {cy : ClassId} {kS vS : Nat} {aO aL aN aT aK aI am : Nat → Nat} {o : AR} {rw : AR} {rf : AR} {lg : AR} {sg : AR} {N : MS} {T : MS} {K : MS} {I : MS} {o2 : AR} {ss : AR} {mm : AR} {im : AR} {wa : AR} {le : AR} {ro : AR} {re : AR} {fa : AR} {nu : AR} (F : CallFix p m c cL_law 4 s #[Value.ref b] gT RL) (hX : va_X b L xs s s.heap) (hbl : b < s.heap.size) (hL : L ≤ 2048) (hK : va_K D vwCl [(cy, .int)] s) (hG : gStr kS vS (fun q : Nat => s.heap.size ≤ q) s s.heap) (i : Int) (hi : 0 ≤ i ∧ i + 3 < L) (ih : ∀ (o : AR) (rw : AR) (rf : AR) (lg : AR) (sg : AR) (N : MS) (T : MS) (K : MS) (I : MS) (o2 : AR) (ss : AR) (mm : AR) (im : AR) (wa : AR) (le : AR) (ro : AR) (re : AR) (fa : AR) (nu : AR) (H : Heap) (locs : List Loc) (ls : Array Slot), gInv o rw rf lg sg N T K I o2 ss mm im wa le ro re fa nu → va_P D vwCl (wGh cy aO aL aN aT aK aI o rw rf lg sg N T K I ++ wMd cy am o2 ss mm im wa le ro re fa nu) H → va_D (fun q : Nat => s.heap.size ≤ q) (wGh cy aO aL aN aT aK aI o rw rf lg sg N T K I ++ wMd cy am o2 ss mm im wa le ro re fa nu) → va_S (fun q : Nat => s.heap.size ≤ q) s.heap H locs → lv_has ls 4 [(0, .ref b), (1, .ref (aO 0)), (2, .ref (am 0)), (3, .int (iI i))] → W p l e room_1 s m #[Value.ref b] below meth c H locs 75 1865 (lw_Z below #[Value.ref b] s) (F0 m 1126 ls [])) {H : Heap} {locs : List Loc} {ls : Array Slot} (hI : gInv o rw rf lg sg N T K I o2 ss mm im wa le ro re fa nu) (hP : va_P D vwCl (wGh cy aO aL aN aT aK aI o rw rf lg sg N T K I ++ wMd cy am o2 ss mm im wa le ro re fa nu) H) (hD : va_D (fun q : Nat => s.heap.size ≤ q) (wGh cy aO aL aN aT aK aI o rw rf lg sg N T K I ++ wMd cy am o2 ss mm im wa le ro re fa nu)) (hS : va_S (fun q : Nat => s.heap.size ≤ q) s.heap H locs) (hl : lv_has ls 4 [(0, .ref b), (1, .ref (aO 0)), (2, .ref (am 0)), (3, .int (iI i))]) : W p l e room_1 s m #[Value.ref b] below meth c H locs 75 1865 (lw_Z below #[Value.ref b] s) (F0 m 975 ls []) := by
  have hA : ∀ q : Nat, s.heap.size ≤ q → (fun q : Nat => s.heap.size ≤ q) q := fun _ h => h
  have hbA : ¬ (fun q : Nat => s.heap.size ≤ q) b := Nat.not_le.mpr hbl
  have h := op_row hI (sv xs (i + 1)) (gR_toInt _)
  refine lv_aload_n F.1 F.2.1 dL_law_975 rfl (lv_at hl 1 rfl) ?_
  refine lv_aload_n F.1 F.2.1 dL_law_976 rfl (lv_at hl 0 rfl) ?_
  refine lv_iload_n F.1 F.2.1 dL_law_977 rfl (lv_at hl 3 rfl) ?_
  refine gv_iconst F dL_law_978 ?_
  refine gv_iadd F dL_law_979 ?_
  refine gv_sld F hX hbl hbA hS hL ⟨by omega, by omega⟩ dL_law_980 ?_
  refine gc_VI (As := [.int (iI (sv xs (i + 1)))]) (wn := fun u : AR × AR × AR => wGh cy aO aL aN aT aK aI u.1 u.2.1 u.2.2 lg sg N T K I ++ wMd cy am o2 ss mm im wa le ro re fa nu) F hK hA hP hD hS (gP_left hP) (gD_left hD) (fun u H1 hk h1 _ => gJ_left hP hD hk h1 gh_adr) (c_X3_row l D cy aO aL aN aT aK aI o rw rf lg sg N T K I (sv xs (i + 1)) _ h) (cwV 1 F.2.2.2.2 (gG_V k699 k700 k701 k61 k702) rfl rfl rfl hd_X3_row ⟨Nat.le_of_ble_eq_true rfl, Nat.le_of_ble_eq_true rfl⟩) rfl rfl dL_law_981 rfl rfl hl.1 (Nat.le_of_ble_eq_true rfl) ⟨Nat.le_of_ble_eq_true rfl, Nat.le_of_ble_eq_true rfl⟩ (fun r u H locs h hP hD hS => ?_)
  obtain ⟨o1, rw1, rf1⟩ := u
  try dsimp only at h hP hD
  refine lv_aload_n F.1 F.2.1 dL_law_984 rfl (lv_at hl 2 rfl) ?_
  refine lv_aload_n F.1 F.2.1 dL_law_985 rfl (lv_at hl 0 rfl) ?_
  refine lv_iload_n F.1 F.2.1 dL_law_986 rfl (lv_at hl 3 rfl) ?_
  refine gv_iconst F dL_law_987 ?_
  refine gv_iadd F dL_law_988 ?_
  refine gv_sld F hX hbl hbA hS hL ⟨by omega, by omega⟩ dL_law_989 ?_
  refine gc_VI (As := [.int (iI (sv xs (i + 1)))]) (wn := fun u : AR × AR × AR => wGh cy aO aL aN aT aK aI o1 rw1 rf1 lg sg N T K I ++ wMd cy am u.1 ss mm im wa le u.2.1 u.2.2 fa nu) F hK hA hP hD hS (gP_right hP) (gD_right hD) (fun u H1 hk h1 _ => gJ_right hP hD hk h1 rfl) (c_X4_row l D cy am o2 ss mm im wa le ro re fa nu (sv xs (i + 1)) _ h) (cwV 1 F.2.2.2.2 (gG_V k1069 k1070 k1071 k67 k1072) rfl rfl rfl hd_X4_row ⟨Nat.le_of_ble_eq_true rfl, Nat.le_of_ble_eq_true rfl⟩) rfl rfl dL_law_990 rfl rfl hl.1 (Nat.le_of_ble_eq_true rfl) ⟨Nat.le_of_ble_eq_true rfl, Nat.le_of_ble_eq_true rfl⟩ (fun r2 u H locs h hP hD hS => ?_)
  obtain ⟨o21, ro1, re1⟩ := u
  try dsimp only at h hP hD
  refine lv_icmp_eq (tgt := 1126) F.1 F.2.1 dL_law_993 (by decide) (fun _ => ?_) (fun c9 => absurd (by rw [h.1]) c9)
  exact ih o1 rw1 rf1 lg sg N T K I o21 ss mm im wa le ro1 re1 fa nu H locs ls h.2 hP hD hS hl
set_option maxHeartbeats 4000000 in
set_option maxRecDepth 20000 in
theorem lw_judge {p : Program} {l : Launch} {e : Env} {s : State} {m : MethodId} {below : List Frame} {meth : Method} {c : Code} {b L : Nat} {xs : Nat → Int32} {D : va_G} {cy : ClassId} {kS vS : Nat} {aO aL aN aT aK aI am : Nat → Nat} {o : AR} {rw : AR} {rf : AR} {lg : AR} {sg : AR} {N : MS} {T : MS} {K : MS} {I : MS} {o2 : AR} {ss : AR} {mm : AR} {im : AR} {wa : AR} {le : AR} {ro : AR} {re : AR} {fa : AR} {nu : AR} (F : CallFix p m c cL_law 4 s #[Value.ref b] gT RL) (hX : va_X b L xs s s.heap) (hbl : b < s.heap.size) (hL : L ≤ 2048) (hK : va_K D vwCl [(cy, .int)] s) (hG : gStr kS vS (fun q : Nat => s.heap.size ≤ q) s s.heap) (i : Int) (hi : 0 ≤ i ∧ i + 3 < L) (ih : ∀ (o : AR) (rw : AR) (rf : AR) (lg : AR) (sg : AR) (N : MS) (T : MS) (K : MS) (I : MS) (o2 : AR) (ss : AR) (mm : AR) (im : AR) (wa : AR) (le : AR) (ro : AR) (re : AR) (fa : AR) (nu : AR) (H : Heap) (locs : List Loc) (ls : Array Slot), gInv o rw rf lg sg N T K I o2 ss mm im wa le ro re fa nu → va_P D vwCl (wGh cy aO aL aN aT aK aI o rw rf lg sg N T K I ++ wMd cy am o2 ss mm im wa le ro re fa nu) H → va_D (fun q : Nat => s.heap.size ≤ q) (wGh cy aO aL aN aT aK aI o rw rf lg sg N T K I ++ wMd cy am o2 ss mm im wa le ro re fa nu) → va_S (fun q : Nat => s.heap.size ≤ q) s.heap H locs → lv_has ls 4 [(0, .ref b), (1, .ref (aO 0)), (2, .ref (am 0)), (3, .int (iI i))] → W p l e room_1 s m #[Value.ref b] below meth c H locs 75 1865 (lw_Z below #[Value.ref b] s) (F0 m 1126 ls [])) {H : Heap} {locs : List Loc} {ls : Array Slot} (hI : gInv o rw rf lg sg N T K I o2 ss mm im wa le ro re fa nu) (hP : va_P D vwCl (wGh cy aO aL aN aT aK aI o rw rf lg sg N T K I ++ wMd cy am o2 ss mm im wa le ro re fa nu) H) (hD : va_D (fun q : Nat => s.heap.size ≤ q) (wGh cy aO aL aN aT aK aI o rw rf lg sg N T K I ++ wMd cy am o2 ss mm im wa le ro re fa nu)) (hS : va_S (fun q : Nat => s.heap.size ≤ q) s.heap H locs) (hl : lv_has ls 4 [(0, .ref b), (1, .ref (aO 0)), (2, .ref (am 0)), (3, .int (iI i))]) : W p l e room_1 s m #[Value.ref b] below meth c H locs 75 1865 (lw_Z below #[Value.ref b] s) (F0 m 998 ls []) := by
  have hA : ∀ q : Nat, s.heap.size ≤ q → (fun q : Nat => s.heap.size ≤ q) q := fun _ h => h
  have hbA : ¬ (fun q : Nat => s.heap.size ≤ q) b := Nat.not_le.mpr hbl
  have h := op_judge hI (sv xs (i + 1)) (gR_toInt _)
  refine lv_aload_n F.1 F.2.1 dL_law_998 rfl (lv_at hl 1 rfl) ?_
  refine lv_aload_n F.1 F.2.1 dL_law_999 rfl (lv_at hl 0 rfl) ?_
  refine lv_iload_n F.1 F.2.1 dL_law_1000 rfl (lv_at hl 3 rfl) ?_
  refine gv_iconst F dL_law_1001 ?_
  refine gv_iadd F dL_law_1002 ?_
  refine gv_sld F hX hbl hbA hS hL ⟨by omega, by omega⟩ dL_law_1003 ?_
  refine gc_VI (As := [.int (iI (sv xs (i + 1)))]) (wn := fun u : AR × AR × MS => wGh cy aO aL aN aT aK aI u.1 rw u.2.1 lg sg N u.2.2 K I ++ wMd cy am o2 ss mm im wa le ro re fa nu) F hK hA hP hD hS (gP_left hP) (gD_left hD) (fun u H1 hk h1 _ => gJ_left hP hD hk h1 gh_adr) (c_X3_judge l D cy aO aL aN aT aK aI o rw rf lg sg N T K I (sv xs (i + 1)) _ h) (cwV 1 F.2.2.2.2 (gG_V k703 k704 k705 k61 k706) rfl rfl rfl hd_X3_judge ⟨Nat.le_of_ble_eq_true rfl, Nat.le_of_ble_eq_true rfl⟩) rfl rfl dL_law_1004 rfl rfl hl.1 (Nat.le_of_ble_eq_true rfl) ⟨Nat.le_of_ble_eq_true rfl, Nat.le_of_ble_eq_true rfl⟩ (fun r u H locs h hP hD hS => ?_)
  obtain ⟨o1, rf1, T1⟩ := u
  try dsimp only at h hP hD
  refine lv_aload_n F.1 F.2.1 dL_law_1007 rfl (lv_at hl 2 rfl) ?_
  refine lv_aload_n F.1 F.2.1 dL_law_1008 rfl (lv_at hl 0 rfl) ?_
  refine lv_iload_n F.1 F.2.1 dL_law_1009 rfl (lv_at hl 3 rfl) ?_
  refine gv_iconst F dL_law_1010 ?_
  refine gv_iadd F dL_law_1011 ?_
  refine gv_sld F hX hbl hbA hS hL ⟨by omega, by omega⟩ dL_law_1012 ?_
  refine gc_VI (As := [.int (iI (sv xs (i + 1)))]) (wn := fun u : AR × AR × AR × AR => wGh cy aO aL aN aT aK aI o1 rw rf1 lg sg N T1 K I ++ wMd cy am u.1 ss u.2.1 im wa le ro u.2.2.1 u.2.2.2 nu) F hK hA hP hD hS (gP_right hP) (gD_right hD) (fun u H1 hk h1 _ => gJ_right hP hD hk h1 rfl) (c_X4_judge l D cy am o2 ss mm im wa le ro re fa nu (sv xs (i + 1)) _ h) (cwV 1 F.2.2.2.2 (gG_V k1081 k1082 k1083 k67 k1084) rfl rfl rfl hd_X4_judge ⟨Nat.le_of_ble_eq_true rfl, Nat.le_of_ble_eq_true rfl⟩) rfl rfl dL_law_1013 rfl rfl hl.1 (Nat.le_of_ble_eq_true rfl) ⟨Nat.le_of_ble_eq_true rfl, Nat.le_of_ble_eq_true rfl⟩ (fun r2 u H locs h hP hD hS => ?_)
  obtain ⟨o21, mm1, re1, fa1⟩ := u
  try dsimp only at h hP hD
  refine lv_icmp_eq (tgt := 1126) F.1 F.2.1 dL_law_1016 (by decide) (fun _ => ?_) (fun c9 => absurd (by rw [h.1]) c9)
  exact ih o1 rw rf1 lg sg N T1 K I o21 ss mm1 im wa le ro re1 fa1 nu H locs ls h.2 hP hD hS hl
set_option maxHeartbeats 4000000 in
set_option maxRecDepth 20000 in
theorem lw_clear {p : Program} {l : Launch} {e : Env} {s : State} {m : MethodId} {below : List Frame} {meth : Method} {c : Code} {b L : Nat} {xs : Nat → Int32} {D : va_G} {cy : ClassId} {kS vS : Nat} {aO aL aN aT aK aI am : Nat → Nat} {o : AR} {rw : AR} {rf : AR} {lg : AR} {sg : AR} {N : MS} {T : MS} {K : MS} {I : MS} {o2 : AR} {ss : AR} {mm : AR} {im : AR} {wa : AR} {le : AR} {ro : AR} {re : AR} {fa : AR} {nu : AR} (F : CallFix p m c cL_law 4 s #[Value.ref b] gT RL) (hX : va_X b L xs s s.heap) (hbl : b < s.heap.size) (hL : L ≤ 2048) (hK : va_K D vwCl [(cy, .int)] s) (hG : gStr kS vS (fun q : Nat => s.heap.size ≤ q) s s.heap) (i : Int) (hi : 0 ≤ i ∧ i + 3 < L) (ih : ∀ (o : AR) (rw : AR) (rf : AR) (lg : AR) (sg : AR) (N : MS) (T : MS) (K : MS) (I : MS) (o2 : AR) (ss : AR) (mm : AR) (im : AR) (wa : AR) (le : AR) (ro : AR) (re : AR) (fa : AR) (nu : AR) (H : Heap) (locs : List Loc) (ls : Array Slot), gInv o rw rf lg sg N T K I o2 ss mm im wa le ro re fa nu → va_P D vwCl (wGh cy aO aL aN aT aK aI o rw rf lg sg N T K I ++ wMd cy am o2 ss mm im wa le ro re fa nu) H → va_D (fun q : Nat => s.heap.size ≤ q) (wGh cy aO aL aN aT aK aI o rw rf lg sg N T K I ++ wMd cy am o2 ss mm im wa le ro re fa nu) → va_S (fun q : Nat => s.heap.size ≤ q) s.heap H locs → lv_has ls 4 [(0, .ref b), (1, .ref (aO 0)), (2, .ref (am 0)), (3, .int (iI i))] → W p l e room_1 s m #[Value.ref b] below meth c H locs 75 1865 (lw_Z below #[Value.ref b] s) (F0 m 1126 ls [])) {H : Heap} {locs : List Loc} {ls : Array Slot} (hI : gInv o rw rf lg sg N T K I o2 ss mm im wa le ro re fa nu) (hP : va_P D vwCl (wGh cy aO aL aN aT aK aI o rw rf lg sg N T K I ++ wMd cy am o2 ss mm im wa le ro re fa nu) H) (hD : va_D (fun q : Nat => s.heap.size ≤ q) (wGh cy aO aL aN aT aK aI o rw rf lg sg N T K I ++ wMd cy am o2 ss mm im wa le ro re fa nu)) (hS : va_S (fun q : Nat => s.heap.size ≤ q) s.heap H locs) (hl : lv_has ls 4 [(0, .ref b), (1, .ref (aO 0)), (2, .ref (am 0)), (3, .int (iI i))]) : W p l e room_1 s m #[Value.ref b] below meth c H locs 75 1865 (lw_Z below #[Value.ref b] s) (F0 m 1021 ls []) := by
  have hA : ∀ q : Nat, s.heap.size ≤ q → (fun q : Nat => s.heap.size ≤ q) q := fun _ h => h
  have hbA : ¬ (fun q : Nat => s.heap.size ≤ q) b := Nat.not_le.mpr hbl
  have h := op_clear hI  
  refine lv_aload_n F.1 F.2.1 dL_law_1021 rfl (lv_at hl 1 rfl) ?_
  refine gc_VI (As := []) (wn := fun u : AR => wGh cy aO aL aN aT aK aI u rw rf lg sg N T K I ++ wMd cy am o2 ss mm im wa le ro re fa nu) F hK hA hP hD hS (gP_left hP) (gD_left hD) (fun u H1 hk h1 _ => gJ_left hP hD hk h1 gh_adr) (c_X3_clear l D cy aO aL aN aT aK aI o rw rf lg sg N T K I  _ h) (cwV 0 F.2.2.2.2 (gG_V k707 k708 k709 k61 k710) rfl rfl rfl hd_X3_clear ⟨Nat.le_of_ble_eq_true rfl, Nat.le_of_ble_eq_true rfl⟩) rfl rfl dL_law_1022 rfl rfl hl.1 (Nat.le_of_ble_eq_true rfl) ⟨Nat.le_of_ble_eq_true rfl, Nat.le_of_ble_eq_true rfl⟩ (fun r u H locs h hP hD hS => ?_)
  obtain ⟨o1, rfl⟩ : ∃ z, z = u := ⟨_, rfl⟩
  try dsimp only at h hP hD
  refine lv_aload_n F.1 F.2.1 dL_law_1025 rfl (lv_at hl 2 rfl) ?_
  refine gc_VI (As := []) (wn := fun u : AR => wGh cy aO aL aN aT aK aI o1 rw rf lg sg N T K I ++ wMd cy am u ss mm im wa le ro re fa nu) F hK hA hP hD hS (gP_right hP) (gD_right hD) (fun u H1 hk h1 _ => gJ_right hP hD hk h1 rfl) (c_X4_clear l D cy am o2 ss mm im wa le ro re fa nu  _ h) (cwV 0 F.2.2.2.2 (gG_V k1085 k1086 k1087 k67 k1088) rfl rfl rfl hd_X4_clear ⟨Nat.le_of_ble_eq_true rfl, Nat.le_of_ble_eq_true rfl⟩) rfl rfl dL_law_1026 rfl rfl hl.1 (Nat.le_of_ble_eq_true rfl) ⟨Nat.le_of_ble_eq_true rfl, Nat.le_of_ble_eq_true rfl⟩ (fun r2 u H locs h hP hD hS => ?_)
  obtain ⟨o21, rfl⟩ : ∃ z, z = u := ⟨_, rfl⟩
  try dsimp only at h hP hD
  refine lv_icmp_eq (tgt := 1126) F.1 F.2.1 dL_law_1029 (by decide) (fun _ => ?_) (fun c9 => absurd (by rw [h.1]) c9)
  exact ih o1 rw rf lg sg N T K I o21 ss mm im wa le ro re fa nu H locs ls h.2 hP hD hS hl
set_option maxHeartbeats 4000000 in
set_option maxRecDepth 20000 in
theorem lw_lots {p : Program} {l : Launch} {e : Env} {s : State} {m : MethodId} {below : List Frame} {meth : Method} {c : Code} {b L : Nat} {xs : Nat → Int32} {D : va_G} {cy : ClassId} {kS vS : Nat} {aO aL aN aT aK aI am : Nat → Nat} {o : AR} {rw : AR} {rf : AR} {lg : AR} {sg : AR} {N : MS} {T : MS} {K : MS} {I : MS} {o2 : AR} {ss : AR} {mm : AR} {im : AR} {wa : AR} {le : AR} {ro : AR} {re : AR} {fa : AR} {nu : AR} (F : CallFix p m c cL_law 4 s #[Value.ref b] gT RL) (hX : va_X b L xs s s.heap) (hbl : b < s.heap.size) (hL : L ≤ 2048) (hK : va_K D vwCl [(cy, .int)] s) (hG : gStr kS vS (fun q : Nat => s.heap.size ≤ q) s s.heap) (i : Int) (hi : 0 ≤ i ∧ i + 3 < L) (ih : ∀ (o : AR) (rw : AR) (rf : AR) (lg : AR) (sg : AR) (N : MS) (T : MS) (K : MS) (I : MS) (o2 : AR) (ss : AR) (mm : AR) (im : AR) (wa : AR) (le : AR) (ro : AR) (re : AR) (fa : AR) (nu : AR) (H : Heap) (locs : List Loc) (ls : Array Slot), gInv o rw rf lg sg N T K I o2 ss mm im wa le ro re fa nu → va_P D vwCl (wGh cy aO aL aN aT aK aI o rw rf lg sg N T K I ++ wMd cy am o2 ss mm im wa le ro re fa nu) H → va_D (fun q : Nat => s.heap.size ≤ q) (wGh cy aO aL aN aT aK aI o rw rf lg sg N T K I ++ wMd cy am o2 ss mm im wa le ro re fa nu) → va_S (fun q : Nat => s.heap.size ≤ q) s.heap H locs → lv_has ls 4 [(0, .ref b), (1, .ref (aO 0)), (2, .ref (am 0)), (3, .int (iI i))] → W p l e room_1 s m #[Value.ref b] below meth c H locs 75 1865 (lw_Z below #[Value.ref b] s) (F0 m 1126 ls [])) {H : Heap} {locs : List Loc} {ls : Array Slot} (hI : gInv o rw rf lg sg N T K I o2 ss mm im wa le ro re fa nu) (hP : va_P D vwCl (wGh cy aO aL aN aT aK aI o rw rf lg sg N T K I ++ wMd cy am o2 ss mm im wa le ro re fa nu) H) (hD : va_D (fun q : Nat => s.heap.size ≤ q) (wGh cy aO aL aN aT aK aI o rw rf lg sg N T K I ++ wMd cy am o2 ss mm im wa le ro re fa nu)) (hS : va_S (fun q : Nat => s.heap.size ≤ q) s.heap H locs) (hl : lv_has ls 4 [(0, .ref b), (1, .ref (aO 0)), (2, .ref (am 0)), (3, .int (iI i))]) : W p l e room_1 s m #[Value.ref b] below meth c H locs 75 1865 (lw_Z below #[Value.ref b] s) (F0 m 1034 ls []) := by
  have hA : ∀ q : Nat, s.heap.size ≤ q → (fun q : Nat => s.heap.size ≤ q) q := fun _ h => h
  have hbA : ¬ (fun q : Nat => s.heap.size ≤ q) b := Nat.not_le.mpr hbl
  have h := op_lots hI (sv xs (i + 1)) (sv xs (i + 2)) (sv xs (i + 3)) (gR_toInt _) (gR_toInt _) (gR_toInt _)
  refine lv_aload_n F.1 F.2.1 dL_law_1034 rfl (lv_at hl 1 rfl) ?_
  refine lv_aload_n F.1 F.2.1 dL_law_1035 rfl (lv_at hl 0 rfl) ?_
  refine lv_iload_n F.1 F.2.1 dL_law_1036 rfl (lv_at hl 3 rfl) ?_
  refine gv_iconst F dL_law_1037 ?_
  refine gv_iadd F dL_law_1038 ?_
  refine gv_sld F hX hbl hbA hS hL ⟨by omega, by omega⟩ dL_law_1039 ?_
  refine lv_aload_n F.1 F.2.1 dL_law_1040 rfl (lv_at hl 0 rfl) ?_
  refine lv_iload_n F.1 F.2.1 dL_law_1041 rfl (lv_at hl 3 rfl) ?_
  refine gv_iconst F dL_law_1042 ?_
  refine gv_iadd F dL_law_1043 ?_
  refine gv_sld F hX hbl hbA hS hL ⟨by omega, by omega⟩ dL_law_1044 ?_
  refine lv_aload_n F.1 F.2.1 dL_law_1045 rfl (lv_at hl 0 rfl) ?_
  refine lv_iload_n F.1 F.2.1 dL_law_1046 rfl (lv_at hl 3 rfl) ?_
  refine gv_iconst F dL_law_1047 ?_
  refine gv_iadd F dL_law_1048 ?_
  refine gv_sld F hX hbl hbA hS hL ⟨by omega, by omega⟩ dL_law_1049 ?_
  refine gc_VI (As := [.int (iI (sv xs (i + 1))), .int (iI (sv xs (i + 2))), .int (iI (sv xs (i + 3)))]) (wn := fun u : AR × MS => wGh cy aO aL aN aT aK aI o rw u.1 lg sg N u.2 K I ++ wMd cy am o2 ss mm im wa le ro re fa nu) F hK hA hP hD hS (gP_left hP) (gD_left hD) (fun u H1 hk h1 _ => gJ_left hP hD hk h1 gh_adr) (c_X3_lots l D cy aO aL aN aT aK aI o rw rf lg sg N T K I (sv xs (i + 1)) (sv xs (i + 2)) (sv xs (i + 3)) _ h) (cwV 3 F.2.2.2.2 (gG_V k711 k712 k713 k61 k714) rfl rfl rfl hd_X3_lots ⟨Nat.le_of_ble_eq_true rfl, Nat.le_of_ble_eq_true rfl⟩) rfl rfl dL_law_1050 rfl rfl hl.1 (Nat.le_of_ble_eq_true rfl) ⟨Nat.le_of_ble_eq_true rfl, Nat.le_of_ble_eq_true rfl⟩ (fun r u H locs h hP hD hS => ?_)
  obtain ⟨rf1, T1⟩ := u
  try dsimp only at h hP hD
  refine lv_aload_n F.1 F.2.1 dL_law_1053 rfl (lv_at hl 2 rfl) ?_
  refine lv_aload_n F.1 F.2.1 dL_law_1054 rfl (lv_at hl 0 rfl) ?_
  refine lv_iload_n F.1 F.2.1 dL_law_1055 rfl (lv_at hl 3 rfl) ?_
  refine gv_iconst F dL_law_1056 ?_
  refine gv_iadd F dL_law_1057 ?_
  refine gv_sld F hX hbl hbA hS hL ⟨by omega, by omega⟩ dL_law_1058 ?_
  refine lv_aload_n F.1 F.2.1 dL_law_1059 rfl (lv_at hl 0 rfl) ?_
  refine lv_iload_n F.1 F.2.1 dL_law_1060 rfl (lv_at hl 3 rfl) ?_
  refine gv_iconst F dL_law_1061 ?_
  refine gv_iadd F dL_law_1062 ?_
  refine gv_sld F hX hbl hbA hS hL ⟨by omega, by omega⟩ dL_law_1063 ?_
  refine lv_aload_n F.1 F.2.1 dL_law_1064 rfl (lv_at hl 0 rfl) ?_
  refine lv_iload_n F.1 F.2.1 dL_law_1065 rfl (lv_at hl 3 rfl) ?_
  refine gv_iconst F dL_law_1066 ?_
  refine gv_iadd F dL_law_1067 ?_
  refine gv_sld F hX hbl hbA hS hL ⟨by omega, by omega⟩ dL_law_1068 ?_
  refine gc_VI (As := [.int (iI (sv xs (i + 1))), .int (iI (sv xs (i + 2))), .int (iI (sv xs (i + 3)))]) (wn := fun u : AR × AR × AR × AR => wGh cy aO aL aN aT aK aI o rw rf1 lg sg N T1 K I ++ wMd cy am u.1 ss u.2.1 im wa le ro u.2.2.1 u.2.2.2 nu) F hK hA hP hD hS (gP_right hP) (gD_right hD) (fun u H1 hk h1 _ => gJ_right hP hD hk h1 rfl) (c_X4_lots l D cy am o2 ss mm im wa le ro re fa nu (sv xs (i + 1)) (sv xs (i + 2)) (sv xs (i + 3)) _ h) (cwV 3 F.2.2.2.2 (gG_V k1089 k1090 k1091 k67 k1092) rfl rfl rfl hd_X4_lots ⟨Nat.le_of_ble_eq_true rfl, Nat.le_of_ble_eq_true rfl⟩) rfl rfl dL_law_1069 rfl rfl hl.1 (Nat.le_of_ble_eq_true rfl) ⟨Nat.le_of_ble_eq_true rfl, Nat.le_of_ble_eq_true rfl⟩ (fun r2 u H locs h hP hD hS => ?_)
  obtain ⟨o21, mm1, re1, fa1⟩ := u
  try dsimp only at h hP hD
  refine lv_icmp_eq (tgt := 1126) F.1 F.2.1 dL_law_1072 (by decide) (fun _ => ?_) (fun c9 => absurd (by rw [h.1]) c9)
  exact ih o rw rf1 lg sg N T1 K I o21 ss mm1 im wa le ro re1 fa1 nu H locs ls h.2 hP hD hS hl
set_option maxHeartbeats 4000000 in
set_option maxRecDepth 20000 in
theorem lw_image {p : Program} {l : Launch} {e : Env} {s : State} {m : MethodId} {below : List Frame} {meth : Method} {c : Code} {b L : Nat} {xs : Nat → Int32} {D : va_G} {cy : ClassId} {kS vS : Nat} {aO aL aN aT aK aI am : Nat → Nat} {o : AR} {rw : AR} {rf : AR} {lg : AR} {sg : AR} {N : MS} {T : MS} {K : MS} {I : MS} {o2 : AR} {ss : AR} {mm : AR} {im : AR} {wa : AR} {le : AR} {ro : AR} {re : AR} {fa : AR} {nu : AR} (F : CallFix p m c cL_law 4 s #[Value.ref b] gT RL) (hX : va_X b L xs s s.heap) (hbl : b < s.heap.size) (hL : L ≤ 2048) (hK : va_K D vwCl [(cy, .int)] s) (hG : gStr kS vS (fun q : Nat => s.heap.size ≤ q) s s.heap) (i : Int) (hi : 0 ≤ i ∧ i + 3 < L) (ih : ∀ (o : AR) (rw : AR) (rf : AR) (lg : AR) (sg : AR) (N : MS) (T : MS) (K : MS) (I : MS) (o2 : AR) (ss : AR) (mm : AR) (im : AR) (wa : AR) (le : AR) (ro : AR) (re : AR) (fa : AR) (nu : AR) (H : Heap) (locs : List Loc) (ls : Array Slot), gInv o rw rf lg sg N T K I o2 ss mm im wa le ro re fa nu → va_P D vwCl (wGh cy aO aL aN aT aK aI o rw rf lg sg N T K I ++ wMd cy am o2 ss mm im wa le ro re fa nu) H → va_D (fun q : Nat => s.heap.size ≤ q) (wGh cy aO aL aN aT aK aI o rw rf lg sg N T K I ++ wMd cy am o2 ss mm im wa le ro re fa nu) → va_S (fun q : Nat => s.heap.size ≤ q) s.heap H locs → lv_has ls 4 [(0, .ref b), (1, .ref (aO 0)), (2, .ref (am 0)), (3, .int (iI i))] → W p l e room_1 s m #[Value.ref b] below meth c H locs 75 1865 (lw_Z below #[Value.ref b] s) (F0 m 1126 ls [])) {H : Heap} {locs : List Loc} {ls : Array Slot} (hI : gInv o rw rf lg sg N T K I o2 ss mm im wa le ro re fa nu) (hP : va_P D vwCl (wGh cy aO aL aN aT aK aI o rw rf lg sg N T K I ++ wMd cy am o2 ss mm im wa le ro re fa nu) H) (hD : va_D (fun q : Nat => s.heap.size ≤ q) (wGh cy aO aL aN aT aK aI o rw rf lg sg N T K I ++ wMd cy am o2 ss mm im wa le ro re fa nu)) (hS : va_S (fun q : Nat => s.heap.size ≤ q) s.heap H locs) (hl : lv_has ls 4 [(0, .ref b), (1, .ref (aO 0)), (2, .ref (am 0)), (3, .int (iI i))]) : W p l e room_1 s m #[Value.ref b] below meth c H locs 75 1865 (lw_Z below #[Value.ref b] s) (F0 m 1077 ls []) := by
  have hA : ∀ q : Nat, s.heap.size ≤ q → (fun q : Nat => s.heap.size ≤ q) q := fun _ h => h
  have hbA : ¬ (fun q : Nat => s.heap.size ≤ q) b := Nat.not_le.mpr hbl
  have h := op_image hI  
  refine lv_aload_n F.1 F.2.1 dL_law_1077 rfl (lv_at hl 1 rfl) ?_
  refine gc_VI (As := []) (wn := fun u : AR × MS => wGh cy aO aL aN aT aK aI u.1 rw rf lg sg N T K u.2 ++ wMd cy am o2 ss mm im wa le ro re fa nu) F hK hA hP hD hS (gP_left hP) (gD_left hD) (fun u H1 hk h1 _ => gJ_left hP hD hk h1 gh_adr) (c_X3_image l D cy aO aL aN aT aK aI o rw rf lg sg N T K I  _ h) (cwV 0 F.2.2.2.2 (gG_V k729 k730 k731 k61 k732) rfl rfl rfl hd_X3_image ⟨Nat.le_of_ble_eq_true rfl, Nat.le_of_ble_eq_true rfl⟩) rfl rfl dL_law_1078 rfl rfl hl.1 (Nat.le_of_ble_eq_true rfl) ⟨Nat.le_of_ble_eq_true rfl, Nat.le_of_ble_eq_true rfl⟩ (fun r u H locs h hP hD hS => ?_)
  obtain ⟨o1, I1⟩ := u
  try dsimp only at h hP hD
  refine lv_aload_n F.1 F.2.1 dL_law_1081 rfl (lv_at hl 2 rfl) ?_
  refine gc_VI (As := []) (wn := fun u : AR × AR => wGh cy aO aL aN aT aK aI o1 rw rf lg sg N T K I1 ++ wMd cy am u.1 ss mm u.2 wa le ro re fa nu) F hK hA hP hD hS (gP_right hP) (gD_right hD) (fun u H1 hk h1 _ => gJ_right hP hD hk h1 rfl) (c_X4_image l D cy am o2 ss mm im wa le ro re fa nu  _ h) (cwV 0 F.2.2.2.2 (gG_V k1100 k1101 k1102 k67 k1103) rfl rfl rfl hd_X4_image ⟨Nat.le_of_ble_eq_true rfl, Nat.le_of_ble_eq_true rfl⟩) rfl rfl dL_law_1082 rfl rfl hl.1 (Nat.le_of_ble_eq_true rfl) ⟨Nat.le_of_ble_eq_true rfl, Nat.le_of_ble_eq_true rfl⟩ (fun r2 u H locs h hP hD hS => ?_)
  obtain ⟨o21, im1⟩ := u
  try dsimp only at h hP hD
  refine lv_icmp_eq (tgt := 1126) F.1 F.2.1 dL_law_1085 (by decide) (fun _ => ?_) (fun c9 => absurd (by rw [h.1]) c9)
  exact ih o1 rw rf lg sg N T K I1 o21 ss mm im1 wa le ro re fa nu H locs ls h.2 hP hD hS hl
set_option maxHeartbeats 4000000 in
set_option maxRecDepth 20000 in
theorem lw_on {p : Program} {l : Launch} {e : Env} {s : State} {m : MethodId} {below : List Frame} {meth : Method} {c : Code} {b L : Nat} {xs : Nat → Int32} {D : va_G} {cy : ClassId} {kS vS : Nat} {aO aL aN aT aK aI am : Nat → Nat} {o : AR} {rw : AR} {rf : AR} {lg : AR} {sg : AR} {N : MS} {T : MS} {K : MS} {I : MS} {o2 : AR} {ss : AR} {mm : AR} {im : AR} {wa : AR} {le : AR} {ro : AR} {re : AR} {fa : AR} {nu : AR} (F : CallFix p m c cL_law 4 s #[Value.ref b] gT RL) (hX : va_X b L xs s s.heap) (hbl : b < s.heap.size) (hL : L ≤ 2048) (hK : va_K D vwCl [(cy, .int)] s) (hG : gStr kS vS (fun q : Nat => s.heap.size ≤ q) s s.heap) (i : Int) (hi : 0 ≤ i ∧ i + 3 < L) (ih : ∀ (o : AR) (rw : AR) (rf : AR) (lg : AR) (sg : AR) (N : MS) (T : MS) (K : MS) (I : MS) (o2 : AR) (ss : AR) (mm : AR) (im : AR) (wa : AR) (le : AR) (ro : AR) (re : AR) (fa : AR) (nu : AR) (H : Heap) (locs : List Loc) (ls : Array Slot), gInv o rw rf lg sg N T K I o2 ss mm im wa le ro re fa nu → va_P D vwCl (wGh cy aO aL aN aT aK aI o rw rf lg sg N T K I ++ wMd cy am o2 ss mm im wa le ro re fa nu) H → va_D (fun q : Nat => s.heap.size ≤ q) (wGh cy aO aL aN aT aK aI o rw rf lg sg N T K I ++ wMd cy am o2 ss mm im wa le ro re fa nu) → va_S (fun q : Nat => s.heap.size ≤ q) s.heap H locs → lv_has ls 4 [(0, .ref b), (1, .ref (aO 0)), (2, .ref (am 0)), (3, .int (iI i))] → W p l e room_1 s m #[Value.ref b] below meth c H locs 75 1865 (lw_Z below #[Value.ref b] s) (F0 m 1126 ls [])) {H : Heap} {locs : List Loc} {ls : Array Slot} (hI : gInv o rw rf lg sg N T K I o2 ss mm im wa le ro re fa nu) (hP : va_P D vwCl (wGh cy aO aL aN aT aK aI o rw rf lg sg N T K I ++ wMd cy am o2 ss mm im wa le ro re fa nu) H) (hD : va_D (fun q : Nat => s.heap.size ≤ q) (wGh cy aO aL aN aT aK aI o rw rf lg sg N T K I ++ wMd cy am o2 ss mm im wa le ro re fa nu)) (hS : va_S (fun q : Nat => s.heap.size ≤ q) s.heap H locs) (hl : lv_has ls 4 [(0, .ref b), (1, .ref (aO 0)), (2, .ref (am 0)), (3, .int (iI i))]) : W p l e room_1 s m #[Value.ref b] below meth c H locs 75 1865 (lw_Z below #[Value.ref b] s) (F0 m 1090 ls []) := by
  have hA : ∀ q : Nat, s.heap.size ≤ q → (fun q : Nat => s.heap.size ≤ q) q := fun _ h => h
  have hbA : ¬ (fun q : Nat => s.heap.size ≤ q) b := Nat.not_le.mpr hbl
  have h := op_on hI  
  refine lv_aload_n F.1 F.2.1 dL_law_1090 rfl (lv_at hl 1 rfl) ?_
  refine gc_VI (As := []) (wn := fun u : AR × MS => wGh cy aO aL aN aT aK aI o rw u.1 lg sg u.2 T K I ++ wMd cy am o2 ss mm im wa le ro re fa nu) F hK hA hP hD hS (gP_left hP) (gD_left hD) (fun u H1 hk h1 _ => gJ_left hP hD hk h1 gh_adr) (c_X3_on l D cy aO aL aN aT aK aI o rw rf lg sg N T K I  _ h) (cwV 0 F.2.2.2.2 (gG_V k733 k734 k735 k61 k736) rfl rfl rfl hd_X3_on ⟨Nat.le_of_ble_eq_true rfl, Nat.le_of_ble_eq_true rfl⟩) rfl rfl dL_law_1091 rfl rfl hl.1 (Nat.le_of_ble_eq_true rfl) ⟨Nat.le_of_ble_eq_true rfl, Nat.le_of_ble_eq_true rfl⟩ (fun r u H locs h hP hD hS => ?_)
  obtain ⟨rf1, N1⟩ := u
  try dsimp only at h hP hD
  refine lv_aload_n F.1 F.2.1 dL_law_1094 rfl (lv_at hl 2 rfl) ?_
  refine gc_VI (As := []) (wn := fun u : AR × AR => wGh cy aO aL aN aT aK aI o rw rf1 lg sg N1 T K I ++ wMd cy am o2 u.1 mm im wa le ro u.2 fa nu) F hK hA hP hD hS (gP_right hP) (gD_right hD) (fun u H1 hk h1 _ => gJ_right hP hD hk h1 rfl) (c_X4_on l D cy am o2 ss mm im wa le ro re fa nu  _ h) (cwV 0 F.2.2.2.2 (gG_V k1104 k1105 k1106 k67 k1107) rfl rfl rfl hd_X4_on ⟨Nat.le_of_ble_eq_true rfl, Nat.le_of_ble_eq_true rfl⟩) rfl rfl dL_law_1095 rfl rfl hl.1 (Nat.le_of_ble_eq_true rfl) ⟨Nat.le_of_ble_eq_true rfl, Nat.le_of_ble_eq_true rfl⟩ (fun r2 u H locs h hP hD hS => ?_)
  obtain ⟨ss1, re1⟩ := u
  try dsimp only at h hP hD
  refine lv_icmp_eq (tgt := 1126) F.1 F.2.1 dL_law_1098 (by decide) (fun _ => ?_) (fun c9 => absurd (by rw [h.1]) c9)
  exact ih o rw rf1 lg sg N1 T K I o2 ss1 mm im wa le ro re1 fa nu H locs ls h.2 hP hD hS hl
set_option maxHeartbeats 4000000 in
set_option maxRecDepth 20000 in
theorem lw_count {p : Program} {l : Launch} {e : Env} {s : State} {m : MethodId} {below : List Frame} {meth : Method} {c : Code} {b L : Nat} {xs : Nat → Int32} {D : va_G} {cy : ClassId} {kS vS : Nat} {aO aL aN aT aK aI am : Nat → Nat} {o : AR} {rw : AR} {rf : AR} {lg : AR} {sg : AR} {N : MS} {T : MS} {K : MS} {I : MS} {o2 : AR} {ss : AR} {mm : AR} {im : AR} {wa : AR} {le : AR} {ro : AR} {re : AR} {fa : AR} {nu : AR} (F : CallFix p m c cL_law 4 s #[Value.ref b] gT RL) (hX : va_X b L xs s s.heap) (hbl : b < s.heap.size) (hL : L ≤ 2048) (hK : va_K D vwCl [(cy, .int)] s) (hG : gStr kS vS (fun q : Nat => s.heap.size ≤ q) s s.heap) (i : Int) (hi : 0 ≤ i ∧ i + 3 < L) (ih : ∀ (o : AR) (rw : AR) (rf : AR) (lg : AR) (sg : AR) (N : MS) (T : MS) (K : MS) (I : MS) (o2 : AR) (ss : AR) (mm : AR) (im : AR) (wa : AR) (le : AR) (ro : AR) (re : AR) (fa : AR) (nu : AR) (H : Heap) (locs : List Loc) (ls : Array Slot), gInv o rw rf lg sg N T K I o2 ss mm im wa le ro re fa nu → va_P D vwCl (wGh cy aO aL aN aT aK aI o rw rf lg sg N T K I ++ wMd cy am o2 ss mm im wa le ro re fa nu) H → va_D (fun q : Nat => s.heap.size ≤ q) (wGh cy aO aL aN aT aK aI o rw rf lg sg N T K I ++ wMd cy am o2 ss mm im wa le ro re fa nu) → va_S (fun q : Nat => s.heap.size ≤ q) s.heap H locs → lv_has ls 4 [(0, .ref b), (1, .ref (aO 0)), (2, .ref (am 0)), (3, .int (iI i))] → W p l e room_1 s m #[Value.ref b] below meth c H locs 75 1865 (lw_Z below #[Value.ref b] s) (F0 m 1126 ls [])) {H : Heap} {locs : List Loc} {ls : Array Slot} (hI : gInv o rw rf lg sg N T K I o2 ss mm im wa le ro re fa nu) (hP : va_P D vwCl (wGh cy aO aL aN aT aK aI o rw rf lg sg N T K I ++ wMd cy am o2 ss mm im wa le ro re fa nu) H) (hD : va_D (fun q : Nat => s.heap.size ≤ q) (wGh cy aO aL aN aT aK aI o rw rf lg sg N T K I ++ wMd cy am o2 ss mm im wa le ro re fa nu)) (hS : va_S (fun q : Nat => s.heap.size ≤ q) s.heap H locs) (hl : lv_has ls 4 [(0, .ref b), (1, .ref (aO 0)), (2, .ref (am 0)), (3, .int (iI i))]) : W p l e room_1 s m #[Value.ref b] below meth c H locs 75 1865 (lw_Z below #[Value.ref b] s) (F0 m 1103 ls []) := by
  have hA : ∀ q : Nat, s.heap.size ≤ q → (fun q : Nat => s.heap.size ≤ q) q := fun _ h => h
  have hbA : ¬ (fun q : Nat => s.heap.size ≤ q) b := Nat.not_le.mpr hbl
  have h := op_count hI (sv xs (i + 1)) (gR_toInt _)
  refine lv_aload_n F.1 F.2.1 dL_law_1103 rfl (lv_at hl 1 rfl) ?_
  refine lv_aload_n F.1 F.2.1 dL_law_1104 rfl (lv_at hl 0 rfl) ?_
  refine lv_iload_n F.1 F.2.1 dL_law_1105 rfl (lv_at hl 3 rfl) ?_
  refine gv_iconst F dL_law_1106 ?_
  refine gv_iadd F dL_law_1107 ?_
  refine gv_sld F hX hbl hbA hS hL ⟨by omega, by omega⟩ dL_law_1108 ?_
  refine gc_VR (As := [.int (iI (sv xs (i + 1)))]) F hK hA hP hS (gP_left hP) (c_X3_count l D cy aO aL aN aT aK aI o rw rf lg sg N T K I (sv xs (i + 1)) _ h) (cwV 1 F.2.2.2.2 (gG_V k737 k738 k739 k61 k740) rfl rfl rfl hd_X3_count ⟨Nat.le_of_ble_eq_true rfl, Nat.le_of_ble_eq_true rfl⟩) rfl rfl dL_law_1109 rfl rfl hl.1 (Nat.le_of_ble_eq_true rfl) ⟨Nat.le_of_ble_eq_true rfl, Nat.le_of_ble_eq_true rfl⟩ (fun r H locs h hP hS => ?_)
  refine lv_aload_n F.1 F.2.1 dL_law_1112 rfl (lv_at hl 2 rfl) ?_
  refine lv_aload_n F.1 F.2.1 dL_law_1113 rfl (lv_at hl 0 rfl) ?_
  refine lv_iload_n F.1 F.2.1 dL_law_1114 rfl (lv_at hl 3 rfl) ?_
  refine gv_iconst F dL_law_1115 ?_
  refine gv_iadd F dL_law_1116 ?_
  refine gv_sld F hX hbl hbA hS hL ⟨by omega, by omega⟩ dL_law_1117 ?_
  refine gc_VR (As := [.int (iI (sv xs (i + 1)))]) F hK hA hP hS (gP_right hP) (c_X4_count l D cy am o2 ss mm im wa le ro re fa nu (sv xs (i + 1)) _ h) (cwV 1 F.2.2.2.2 (gG_V k1108 k1109 k1110 k67 k1111) rfl rfl rfl hd_X4_count ⟨Nat.le_of_ble_eq_true rfl, Nat.le_of_ble_eq_true rfl⟩) rfl rfl dL_law_1118 rfl rfl hl.1 (Nat.le_of_ble_eq_true rfl) ⟨Nat.le_of_ble_eq_true rfl, Nat.le_of_ble_eq_true rfl⟩ (fun r2 H locs h hP hS => ?_)
  refine lv_icmp_eq (tgt := 1126) F.1 F.2.1 dL_law_1121 (by decide) (fun _ => ?_) (fun c9 => absurd (by rw [h.1]) c9)
  exact ih o rw rf lg sg N T K I o2 ss mm im wa le ro re fa nu H locs ls h.2 hP hD hS hl
set_option maxHeartbeats 4000000 in
set_option maxRecDepth 20000 in
theorem law_loop {p : Program} {l : Launch} {e : Env} {s : State} {m : MethodId} {below : List Frame} {meth : Method} {c : Code} {b L : Nat} {xs : Nat → Int32} {D : va_G} {cy : ClassId} {kS vS : Nat} {aO aL aN aT aK aI am : Nat → Nat} (F : CallFix p m c cL_law 4 s #[Value.ref b] gT RL) (hr : meth.sig.returnType = ret) (hlocks : meth.locks = false) (hX : va_X b L xs s s.heap) (hbl : b < s.heap.size) (hL : L ≤ 2048) (hK : va_K D vwCl [(cy, .int)] s) (hG : gStr kS vS (fun q : Nat => s.heap.size ≤ q) s s.heap) : ∀ (n : Nat) (i : Int), 0 ≤ i → i ≤ L + 4 → (L : Int) + 4 - i < n → ∀ (o : AR) (rw : AR) (rf : AR) (lg : AR) (sg : AR) (N : MS) (T : MS) (K : MS) (I : MS) (o2 : AR) (ss : AR) (mm : AR) (im : AR) (wa : AR) (le : AR) (ro : AR) (re : AR) (fa : AR) (nu : AR) (H : Heap) (locs : List Loc) (ls : Array Slot), gInv o rw rf lg sg N T K I o2 ss mm im wa le ro re fa nu → va_P D vwCl (wGh cy aO aL aN aT aK aI o rw rf lg sg N T K I ++ wMd cy am o2 ss mm im wa le ro re fa nu) H → va_D (fun q : Nat => s.heap.size ≤ q) (wGh cy aO aL aN aT aK aI o rw rf lg sg N T K I ++ wMd cy am o2 ss mm im wa le ro re fa nu) → va_S (fun q : Nat => s.heap.size ≤ q) s.heap H locs → lv_has ls 4 [(0, .ref b), (1, .ref (aO 0)), (2, .ref (am 0)), (3, .int (iI i))] → W p l e room_1 s m #[Value.ref b] below meth c H locs 75 1865 (lw_Z below #[Value.ref b] s) (F0 m 18 ls []) := by
  have hA : ∀ q : Nat, s.heap.size ≤ q → (fun q : Nat => s.heap.size ≤ q) q := fun _ h => h
  have hbA : ¬ (fun q : Nat => s.heap.size ≤ q) b := Nat.not_le.mpr hbl
  intro n
  induction n with
  | zero => intro i h0 h1 h2; omega
  | succ n ihn =>
    intro i h0 h1 h2 o rw rf lg sg N T K I o2 ss mm im wa le ro re fa nu H locs ls hI hP hD hS hl
    refine lv_iload_n F.1 F.2.1 dL_law_18 rfl (lv_at hl 3 rfl) ?_
    refine lv_aload_n F.1 F.2.1 dL_law_19 rfl (lv_at hl 0 rfl) ?_
    refine gv_slen F hX hbl hbA hS dL_law_20 ?_
    refine gv_iconst F dL_law_21 ?_
    refine gv_isub F dL_law_22 ?_
    refine gv_icmp_gt (tgt := 1132) F ⟨by omega, by omega⟩ ⟨by omega, by omega⟩ dL_law_23 (by decide) (fun c1 => ?_) (fun c1 => ?_)
    · refine gv_iconst F dL_law_1132 ?_
      refine va_forget (fun q hq => hS.2.2 q hq) ?_
      exact lw_ret F.1 F.2.1 hr hlocks dL_law_1133
    · have ih : ∀ (o : AR) (rw : AR) (rf : AR) (lg : AR) (sg : AR) (N : MS) (T : MS) (K : MS) (I : MS) (o2 : AR) (ss : AR) (mm : AR) (im : AR) (wa : AR) (le : AR) (ro : AR) (re : AR) (fa : AR) (nu : AR) (H : Heap) (locs : List Loc) (ls : Array Slot), gInv o rw rf lg sg N T K I o2 ss mm im wa le ro re fa nu → va_P D vwCl (wGh cy aO aL aN aT aK aI o rw rf lg sg N T K I ++ wMd cy am o2 ss mm im wa le ro re fa nu) H → va_D (fun q : Nat => s.heap.size ≤ q) (wGh cy aO aL aN aT aK aI o rw rf lg sg N T K I ++ wMd cy am o2 ss mm im wa le ro re fa nu) → va_S (fun q : Nat => s.heap.size ≤ q) s.heap H locs → lv_has ls 4 [(0, .ref b), (1, .ref (aO 0)), (2, .ref (am 0)), (3, .int (iI i))] → W p l e room_1 s m #[Value.ref b] below meth c H locs 75 1865 (lw_Z below #[Value.ref b] s) (F0 m 1126 ls []) := by
        intro o rw rf lg sg N T K I o2 ss mm im wa le ro re fa nu H locs ls hI hP hD hS hl
        refine gv_iinc (lv' := [(3, .int (iI (i + 4))), (0, .ref b), (1, .ref (aO 0)), (2, .ref (am 0))]) F dL_law_1126 hl (k := 3) rfl rfl (by decide) rfl (fun ls hl => ?_)
        refine lv_goto (tgt := 18) F.1 F.2.1 dL_law_1129 (by decide) ?_
        exact ihn (i + 4) (by omega) (by omega) (by omega) o rw rf lg sg N T K I o2 ss mm im wa le ro re fa nu H locs ls hI hP hD hS (lv_sub hl [1, 2, 3, 0] rfl)
      have hi : 0 ≤ i ∧ i + 3 < L := ⟨h0, by omega⟩
      refine lv_aload_n F.1 F.2.1 dL_law_26 rfl (lv_at hl 0 rfl) ?_
      refine lv_iload_n F.1 F.2.1 dL_law_27 rfl (lv_at hl 3 rfl) ?_
      refine gv_sld F hX hbl hbA hS hL ⟨by omega, by omega⟩ dL_law_28 ?_
      refine gv_bipush F ⟨by decide, by decide⟩ dL_law_29 ?_
      refine gv_iand F 6 (by decide) (by decide) dL_law_31 ?_
      obtain ⟨x, ex⟩ : ∃ x : Int, x = sv xs i % (63 + 1) := ⟨_, rfl⟩
      rw [← ex]
      have hx : gR x := ⟨by omega, by omega⟩
      by_cases c2 : x = 0
      · refine gv_tableIn (tgt := 184) (off := 152) F hx c2 (by decide) (by decide) dL_law_32 rfl (by decide) ?_
        exact lw_letter F hX hbl hL hK hG i hi ih hI hP hD hS hl
      by_cases c3 : x = 1
      · refine gv_tableIn (tgt := 207) (off := 175) F hx c3 (by decide) (by decide) dL_law_32 rfl (by decide) ?_
        exact lw_museum F hX hbl hL hK hG i hi ih hI hP hD hS hl
      by_cases c4 : x = 2
      · refine gv_tableIn (tgt := 220) (off := 188) F hx c4 (by decide) (by decide) dL_law_32 rfl (by decide) ?_
        exact lw_door F hX hbl hL hK hG i hi ih hI hP hD hS hl
      by_cases c5 : x = 3
      · refine gv_tableIn (tgt := 253) (off := 221) F hx c5 (by decide) (by decide) dL_law_32 rfl (by decide) ?_
        exact lw_question F hX hbl hL hK hG i hi ih hI hP hD hS hl
      by_cases c6 : x = 4
      · refine gv_tableIn (tgt := 286) (off := 254) F hx c6 (by decide) (by decide) dL_law_32 rfl (by decide) ?_
        exact lw_group F hX hbl hL hK hG i hi ih hI hP hD hS hl
      by_cases c7 : x = 5
      · refine gv_tableIn (tgt := 319) (off := 287) F hx c7 (by decide) (by decide) dL_law_32 rfl (by decide) ?_
        exact lw_sheet F hX hbl hL hK hG i hi ih hI hP hD hS hl
      by_cases c8 : x = 6
      · refine gv_tableIn (tgt := 352) (off := 320) F hx c8 (by decide) (by decide) dL_law_32 rfl (by decide) ?_
        exact lw_opens F hX hbl hL hK hG i hi ih hI hP hD hS hl
      by_cases c9 : x = 7
      · refine gv_tableIn (tgt := 385) (off := 353) F hx c9 (by decide) (by decide) dL_law_32 rfl (by decide) ?_
        exact lw_put F hX hbl hL hK hG i hi ih hI hP hD hS hl
      by_cases c10 : x = 8
      · refine gv_tableIn (tgt := 418) (off := 386) F hx c10 (by decide) (by decide) dL_law_32 rfl (by decide) ?_
        exact lw_start F hX hbl hL hK hG i hi ih hI hP hD hS hl
      by_cases c11 : x = 9
      · refine gv_tableIn (tgt := 451) (off := 419) F hx c11 (by decide) (by decide) dL_law_32 rfl (by decide) ?_
        exact lw_write F hX hbl hL hK hG i hi ih hI hP hD hS hl
      by_cases c12 : x = 10
      · refine gv_tableIn (tgt := 494) (off := 462) F hx c12 (by decide) (by decide) dL_law_32 rfl (by decide) ?_
        exact lw_minutes F hX hbl hL hK hG i hi ih hI hP hD hS hl
      by_cases c13 : x = 11
      · refine gv_tableIn (tgt := 517) (off := 485) F hx c13 (by decide) (by decide) dL_law_32 rfl (by decide) ?_
        exact lw_behind F hX hbl hL hK hG i hi ih hI hP hD hS hl
      by_cases c14 : x = 12
      · refine gv_tableIn (tgt := 560) (off := 528) F hx c14 (by decide) (by decide) dL_law_32 rfl (by decide) ?_
        exact lw_done F hX hbl hL hK hG i hi ih hI hP hD hS hl
      by_cases c15 : x = 13
      · refine gv_tableIn (tgt := 583) (off := 551) F hx c15 (by decide) (by decide) dL_law_32 rfl (by decide) ?_
        exact lw_ended F hX hbl hL hK hG i hi ih hI hP hD hS hl
      by_cases c16 : x = 14
      · refine gv_tableIn (tgt := 606) (off := 574) F hx c16 (by decide) (by decide) dL_law_32 rfl (by decide) ?_
        exact lw_answer F hX hbl hL hK hG i hi ih hI hP hD hS hl
      by_cases c17 : x = 15
      · refine gv_tableIn (tgt := 649) (off := 617) F hx c17 (by decide) (by decide) dL_law_32 rfl (by decide) ?_
        exact lw_full F hX hbl hL hK hG i hi ih hI hP hD hS hl
      by_cases c18 : x = 16
      · refine gv_tableIn (tgt := 682) (off := 650) F hx c18 (by decide) (by decide) dL_law_32 rfl (by decide) ?_
        exact lw_right F hX hbl hL hK hG i hi ih hI hP hD hS hl
      by_cases c19 : x = 17
      · refine gv_tableIn (tgt := 705) (off := 673) F hx c19 (by decide) (by decide) dL_law_32 rfl (by decide) ?_
        exact lw_bestFirst F hX hbl hL hK hG i hi ih hI hP hD hS hl
      by_cases c20 : x = 18
      · refine gv_tableIn (tgt := 738) (off := 706) F hx c20 (by decide) (by decide) dL_law_32 rfl (by decide) ?_
        exact lw_apart F hX hbl hL hK hG i hi ih hI hP hD hS hl
      by_cases c21 : x = 19
      · refine gv_tableIn (tgt := 761) (off := 729) F hx c21 (by decide) (by decide) dL_law_32 rfl (by decide) ?_
        exact lw_leave F hX hbl hL hK hG i hi ih hI hP hD hS hl
      by_cases c22 : x = 20
      · refine gv_tableIn (tgt := 774) (off := 742) F hx c22 (by decide) (by decide) dL_law_32 rfl (by decide) ?_
        exact lw_tell F hX hbl hL hK hG i hi ih hI hP hD hS hl
      by_cases c23 : x = 21
      · refine gv_tableIn (tgt := 797) (off := 765) F hx c23 (by decide) (by decide) dL_law_32 rfl (by decide) ?_
        exact lw_spreads F hX hbl hL hK hG i hi ih hI hP hD hS hl
      by_cases c24 : x = 22
      · refine gv_tableIn (tgt := 830) (off := 798) F hx c24 (by decide) (by decide) dL_law_32 rfl (by decide) ?_
        exact lw_missing F hX hbl hL hK hG i hi ih hI hP hD hS hl
      by_cases c25 : x = 23
      · refine gv_tableIn (tgt := 863) (off := 831) F hx c25 (by decide) (by decide) dL_law_32 rfl (by decide) ?_
        exact lw_worth F hX hbl hL hK hG i hi ih hI hP hD hS hl
      by_cases c26 : x = 24
      · refine gv_tableIn (tgt := 886) (off := 854) F hx c26 (by decide) (by decide) dL_law_32 rfl (by decide) ?_
        exact lw_two F hX hbl hL hK hG i hi ih hI hP hD hS hl
      by_cases c27 : x = 25
      · refine gv_tableIn (tgt := 919) (off := 887) F hx c27 (by decide) (by decide) dL_law_32 rfl (by decide) ?_
        exact lw_newDoor F hX hbl hL hK hG i hi ih hI hP hD hS hl
      by_cases c28 : x = 26
      · refine gv_tableIn (tgt := 932) (off := 900) F hx c28 (by decide) (by decide) dL_law_32 rfl (by decide) ?_
        exact lw_which F hX hbl hL hK hG i hi ih hI hP hD hS hl
      by_cases c29 : x = 27
      · refine gv_tableIn (tgt := 975) (off := 943) F hx c29 (by decide) (by decide) dL_law_32 rfl (by decide) ?_
        exact lw_row F hX hbl hL hK hG i hi ih hI hP hD hS hl
      by_cases c30 : x = 28
      · refine gv_tableIn (tgt := 998) (off := 966) F hx c30 (by decide) (by decide) dL_law_32 rfl (by decide) ?_
        exact lw_judge F hX hbl hL hK hG i hi ih hI hP hD hS hl
      by_cases c31 : x = 29
      · refine gv_tableIn (tgt := 1021) (off := 989) F hx c31 (by decide) (by decide) dL_law_32 rfl (by decide) ?_
        exact lw_clear F hX hbl hL hK hG i hi ih hI hP hD hS hl
      by_cases c32 : x = 30
      · refine gv_tableIn (tgt := 1034) (off := 1002) F hx c32 (by decide) (by decide) dL_law_32 rfl (by decide) ?_
        exact lw_lots F hX hbl hL hK hG i hi ih hI hP hD hS hl
      by_cases c33 : x = 31
      · refine gv_tableIn (tgt := 1077) (off := 1045) F hx c33 (by decide) (by decide) dL_law_32 rfl (by decide) ?_
        exact lw_image F hX hbl hL hK hG i hi ih hI hP hD hS hl
      by_cases c34 : x = 32
      · refine gv_tableIn (tgt := 1090) (off := 1058) F hx c34 (by decide) (by decide) dL_law_32 rfl (by decide) ?_
        exact lw_on F hX hbl hL hK hG i hi ih hI hP hD hS hl
      by_cases c35 : x = 33
      · refine gv_tableIn (tgt := 1103) (off := 1071) F hx c35 (by decide) (by decide) dL_law_32 rfl (by decide) ?_
        exact lw_count F hX hbl hL hK hG i hi ih hI hP hD hS hl
      refine gv_tableOut (tgt := 1126) F hx (by omega) dL_law_32 (by decide) ?_
      exact ih o rw rf lg sg N T K I o2 ss mm im wa le ro re fa nu H locs ls hI hP hD hS hl
theorem lk1 (i : Nat) {w : Cond} (h0 : tables_1_1[i]? = some w) : w ∈ lw_tbl := by
  have h := List.mem_of_getElem? h0
  exact List.mem_append_right _ (List.mem_append_left _ h)
theorem lk2 (i : Nat) {w : Cond} (h0 : tables_1_2[i]? = some w) : w ∈ lw_tbl := by
  have h := List.mem_of_getElem? h0
  exact List.mem_append_right _ (List.mem_append_right _ (List.mem_append_left _ h))
theorem lk3 (i : Nat) {w : Cond} (h0 : tables_1_3[i]? = some w) : w ∈ lw_tbl := by
  have h := List.mem_of_getElem? h0
  exact List.mem_append_right _ (List.mem_append_right _ (List.mem_append_right _ (List.mem_append_left _ h)))
theorem lk4 (i : Nat) {w : Cond} (h0 : tables_1_4[i]? = some w) : w ∈ lw_tbl := by
  have h := List.mem_of_getElem? h0
  exact List.mem_append_right _ (List.mem_append_right _ (List.mem_append_right _ (List.mem_append_right _ (List.mem_append_left _ h))))
theorem lk5 (i : Nat) {w : Cond} (h0 : tables_1_5[i]? = some w) : w ∈ lw_tbl := by
  have h := List.mem_of_getElem? h0
  exact List.mem_append_right _ (List.mem_append_right _ (List.mem_append_right _ (List.mem_append_right _ (List.mem_append_right _ h))))
set_option maxHeartbeats 4000000 in
theorem lw_str {s : State} {b : Nat} (hts : ∀ w ∈ lw_tbl, w.before #[Value.ref b] s = true) (hgv : (Jvm.Cond.and given_1 narrow_1).before #[Value.ref b] s = true) : ∃ kS vS : Nat, gStr kS vS (fun q : Nat => s.heap.size ≤ q) s s.heap := by
  have hs := flat_of_before _ hgv
  have hA : ∀ a : Nat, a < s.heap.size → ¬ (fun q : Nat => s.heap.size ≤ q) a := fun a h => Nat.not_le.mpr h
  obtain ⟨adK, adV, h1, h2⟩ := vk_Sof (args := #[Value.ref b]) (s := s) (N := 1) (tm := fun _ => (Term.string "GreenHorseUpstairs$Letters" 23)) (len := [6]) (byt := [[108, 100, 99, 109, 110, 103]]) (A := (fun q : Nat => s.heap.size ≤ q))
    (fun i hi => by obtain rfl : i = 0 := by omega
                    decide)
    (fun i hi => hs (Cond.exactly (Term.string "GreenHorseUpstairs$Letters" 23) "java/lang/String") (by decide +kernel))
    (fun i hi => hs (Cond.eq (.field (Term.string "GreenHorseUpstairs$Letters" 23) "java/lang/String" "coder" "B") (.int 0)) (by decide +kernel))
    (fun i hi => hs (Cond.arrayOf (Term.field (Term.string "GreenHorseUpstairs$Letters" 23) "java/lang/String" "value" "[B") .byte) (by decide +kernel))
    (fun i hi => by obtain rfl : i = 0 := by omega
                    exact hs (Cond.eq (.length (Term.field (Term.string "GreenHorseUpstairs$Letters" 23) "java/lang/String" "value" "[B")) (.int 6)) (by decide +kernel))
    (fun i hi j hj => by
      obtain rfl : i = 0 := by omega
      have hj : j < 6 := hj
      rcases (show j = 0 ∨ j = 1 ∨ j = 2 ∨ j = 3 ∨ j = 4 ∨ j = 5 by omega) with rfl | rfl | rfl | rfl | rfl | rfl
      · exact hs (Cond.eq (.elem (Term.field (Term.string "GreenHorseUpstairs$Letters" 23) "java/lang/String" "value" "[B") (.int 0)) (.int 108)) (by decide +kernel)
      · exact hs (Cond.eq (.elem (Term.field (Term.string "GreenHorseUpstairs$Letters" 23) "java/lang/String" "value" "[B") (.int 1)) (.int 100)) (by decide +kernel)
      · exact hs (Cond.eq (.elem (Term.field (Term.string "GreenHorseUpstairs$Letters" 23) "java/lang/String" "value" "[B") (.int 2)) (.int 99)) (by decide +kernel)
      · exact hs (Cond.eq (.elem (Term.field (Term.string "GreenHorseUpstairs$Letters" 23) "java/lang/String" "value" "[B") (.int 3)) (.int 109)) (by decide +kernel)
      · exact hs (Cond.eq (.elem (Term.field (Term.string "GreenHorseUpstairs$Letters" 23) "java/lang/String" "value" "[B") (.int 4)) (.int 110)) (by decide +kernel)
      · exact hs (Cond.eq (.elem (Term.field (Term.string "GreenHorseUpstairs$Letters" 23) "java/lang/String" "value" "[B") (.int 5)) (.int 103)) (by decide +kernel))
    (fun i j hi hj hij => by omega) hA
  refine ⟨adK 0, adV 0, vk_R.of (hts _ (lk1 197 rfl)) (h2 0 (by decide)), ⟨fun i hi => (show i = 0 by omega) ▸ h1.1 0 (by decide), fun i j hi hj _ => by omega⟩, ?_⟩
  exact va_Zof (hts _ (lk1 211 rfl)) (hts _ (lk1 8 rfl)) (va_eqt (hs (Cond.eq (.static "java/lang/String" "COMPACT_STRINGS" "Z") (.int 1)) (by decide +kernel))) hA
set_option maxHeartbeats 4000000 in
set_option maxRecDepth 100000 in
theorem whole_start {p : Program} {e : Env} {s : State} {m : MethodId} {below : List Frame} {meth : Method} {c : Code} (l : Launch) (hflags : l.flags = flags0) {b L : Nat} {xs : Nat → Int32} (hL : L ≤ 2048) (C0 : lw_At p s m meth c b L xs) : W p l e room_1 s m #[Value.ref b] below meth c s.heap [] 0 0 (lw_Z below #[Value.ref b] s) (entryFrame m ([Value.ref b] : List Value).toArray 4) := by
  obtain ⟨hx, hb, hr, hml, hown, hts, hX, hbl, hlocks, hgv⟩ := id C0
  obtain ⟨kS, vS, hG⟩ := lw_str hts hgv
  have hA : ∀ q : Nat, s.heap.size ≤ q → (fun q : Nat => s.heap.size ≤ q) q := fun _ h => h
  have F : CallFix p m c cL_law 4 s #[Value.ref b] gT RL := ⟨hx, hb, hml, hown, gT_of hts⟩
  obtain ⟨c0, iS0, hKn0⟩ := u_known (C := RX0) (T := TX0) (N := 2) (n := 2) F.2.2.2.2 hin0 (F.2.2.2.2 _ k176)
  obtain ⟨c1, iS1, hKn1⟩ := u_known (C := RX1) (T := TX1) (N := 15) (n := 15) F.2.2.2.2 hin1 (F.2.2.2.2 _ k83)
  obtain ⟨c2, iS2, hKn2⟩ := u_known (C := RX2) (T := TX2) (N := 2) (n := 2) F.2.2.2.2 hin2 (F.2.2.2.2 _ k89)
  obtain ⟨c3, iS3, hKn3⟩ := u_known (C := RX3) (T := TX3) (N := 9) (n := 9) F.2.2.2.2 hin3 (F.2.2.2.2 _ k75)
  obtain ⟨c4, iS4, hKn4⟩ := u_known (C := RX4) (T := TX4) (N := 17) (n := 17) F.2.2.2.2 hin4 (F.2.2.2.2 _ k751)
  obtain ⟨dC, dI, hKc⟩ : ∃ (dC : Nat → ClassId) (dI : Nat → Nat → Nat), ∀ (k : Nat) (q : vw_C), vwCl[k]? = some q → u_Kn s q.1 q.2.1 q.2.2 (dC k) (dI k) := by
    refine ⟨fun k => match k with | 0 => c0 | 1 => c1 | 2 => c2 | 3 => c3 | _ => c4, fun k => match k with | 0 => iS0 | 1 => iS1 | 2 => iS2 | 3 => iS3 | _ => iS4, ?_⟩
    intro k q hq
    match k, hq with
    | 0, hq => cases hq; exact hKn0
    | 1, hq => cases hq; exact hKn1
    | 2, hq => cases hq; exact hKn2
    | 3, hq => cases hq; exact hKn3
    | 4, hq => cases hq; exact hKn4
    | k + 5, hq => simp [vwCl] at hq
  obtain ⟨cy, kA, comp, ha1, ha2, ha3⟩ := Cond.arrayClass_spec (F.2.2.2.2 _ k112)
  have hK : va_K (dC, dI) vwCl [(cy, .int)] s := ⟨hKc, fun k q h => by
    have hz : k < 1 := (List.getElem?_eq_some_iff.mp h).1
    obtain rfl : k = 0 := by omega
    cases h
    exact ⟨fun n z => ⟨fun k h => (by cases h), kA, ha2, comp, ha3⟩, ha1⟩⟩
  have hP : va_P (dC, dI) vwCl [] s.heap := gPnil
  have hD : va_D (fun q : Nat => s.heap.size ≤ q) [] := gDnil
  have hS : va_S (fun q : Nat => s.heap.size ≤ q) s.heap s.heap [] := va_S.rf
  have hl := lv_entry ([.ref b]) (n := 4) (Nat.le_of_ble_eq_true rfl)
  rw [lg_entry_eq]
  generalize (lg_sl ([.ref b]) ++ List.replicate (4 - (lg_sl ([.ref b])).length) Slot.unset).toArray = ls at hl ⊢
  have hl : lv_has ls 4 [(0, .ref b)] := hl
  refine va_new (ci := 3) (fs := [.null, .null, .null, .null, .int (iI 0), .null, .null, .int (iI 0), .null]) (C := RX3) (T := TX3) (N := 9) F.1 F.2.1 F.2.2.2.2 hin3 tyX3 tyX3_ok F.2.2.2.1 (F.2.2.2.2 _ k74) (F.2.2.2.2 _ k75) (F.2.2.2.2 _ k61) hK hP hD hS hA rfl (fun j hj => by rcases (show j = 0 ∨ j = 1 ∨ j = 2 ∨ j = 3 ∨ j = 4 ∨ j = 5 ∨ j = 6 ∨ j = 7 ∨ j = 8 by omega) with rfl | rfl | rfl | rfl | rfl | rfl | rfl | rfl | rfl <;> rfl) (Nat.le_of_ble_eq_true rfl) (Nat.le_of_ble_eq_true rfl) dL_law_0 (fun q1 H hP hD hS => ?_)
  refine W.widen (k := 1) (n := 9) (by omega) (by omega) ?_
  refine lv_dup F.1 F.2.1 dL_law_3 rfl ?_
  have hN : va_Nw gNest s := va_Nw.of rfl (hts _ (lk1 117 rfl))
  refine gc_X (X := []) F hK hA hP hD hS hN (c_X3_init l (dC, dI) cy q1 mFar0 measure0) (cwI 0 F.2.2.2.2 (gN_words (own := RL) k78) rfl rfl rfl (F.2.2.2.2 _ k61) (F.2.2.2.2 _ k76) (F.2.2.2.2 _ k77) rfl hd_X3_init ⟨Nat.le_of_ble_eq_true rfl, Nat.le_of_ble_eq_true rfl⟩) dL_law_4 rfl hl.1 (Nat.le_of_ble_eq_true rfl) ⟨Nat.le_of_ble_eq_true rfl, Nat.le_of_ble_eq_true rfl⟩ (fun u H locs hu hP hD hS => ?_)
  obtain ⟨aO, aL, aN, aT, aK, aI⟩ := u
  try dsimp only at hu hP hD
  rw [← hu]
  refine W.widen (k := 65) (n := 1134) (by omega) (by omega) ?_
  refine lv_astore_n (lv' := [(1, .ref (aO 0)), (0, .ref b)]) F.1 F.2.1 dL_law_7 rfl hl (by decide) rfl (fun ls hl => ?_)
  have hP : va_P (dC, dI) vwCl (wGh cy aO aL aN aT aK aI (fun _ => 0) (fun _ => 0) (fun _ => 0) (fun _ => 0) (fun _ => 0) (m0 mFar0) (m0 mFar0) (m0 mFar0) (m0 mFar0)) H := hP
  have hD : va_D (fun q : Nat => s.heap.size ≤ q) (wGh cy aO aL aN aT aK aI (fun _ => 0) (fun _ => 0) (fun _ => 0) (fun _ => 0) (fun _ => 0) (m0 mFar0) (m0 mFar0) (m0 mFar0) (m0 mFar0)) := hD
  refine va_new (ci := 4) (fs := [.null, .null, .null, .null, .int (iI 0), .null, .null, .null, .int (iI 0), .int (iI 0), .null, .int (iI 0), .null, .int (iI 0), .int (iI 0), .int (iI 0), .int (iI 0)]) (C := RX4) (T := TX4) (N := 17) F.1 F.2.1 F.2.2.2.2 hin4 tyX4 tyX4_ok F.2.2.2.1 (F.2.2.2.2 _ k750) (F.2.2.2.2 _ k751) (F.2.2.2.2 _ k67) hK hP hD hS hA rfl (fun j hj => by rcases (show j = 0 ∨ j = 1 ∨ j = 2 ∨ j = 3 ∨ j = 4 ∨ j = 5 ∨ j = 6 ∨ j = 7 ∨ j = 8 ∨ j = 9 ∨ j = 10 ∨ j = 11 ∨ j = 12 ∨ j = 13 ∨ j = 14 ∨ j = 15 ∨ j = 16 by omega) with rfl | rfl | rfl | rfl | rfl | rfl | rfl | rfl | rfl | rfl | rfl | rfl | rfl | rfl | rfl | rfl | rfl <;> rfl) (Nat.le_of_ble_eq_true rfl) (Nat.le_of_ble_eq_true rfl) dL_law_8 (fun q2 H hP hD hS => ?_)
  refine W.widen (k := 66) (n := 1151) (by omega) (by omega) ?_
  refine lv_dup F.1 F.2.1 dL_law_11 rfl ?_
  refine gc_N F hK hA hP hD hS (c_X4_init l (dC, dI) cy q2) (cwI 0 F.2.2.2.2 (gN_words (own := RL) k754) rfl rfl rfl (F.2.2.2.2 _ k67) (F.2.2.2.2 _ k752) (F.2.2.2.2 _ k753) rfl hd_X4_init ⟨Nat.le_of_ble_eq_true rfl, Nat.le_of_ble_eq_true rfl⟩) dL_law_12 rfl hl.1 (Nat.le_of_ble_eq_true rfl) ⟨Nat.le_of_ble_eq_true rfl, Nat.le_of_ble_eq_true rfl⟩ (fun am H locs hm hP hD hS => ?_)
  try dsimp only at hm hP hD
  rw [← hm]
  refine W.widen (k := 75) (n := 1865) (by omega) (by omega) ?_
  refine lv_astore_n (lv' := [(2, .ref (am 0)), (1, .ref (aO 0)), (0, .ref b)]) F.1 F.2.1 dL_law_15 rfl hl (by decide) rfl (fun ls hl => ?_)
  refine gv_iconst F dL_law_16 ?_
  refine lv_istore_n (lv' := [(3, .int (iI 0)), (2, .ref (am 0)), (1, .ref (aO 0)), (0, .ref b)]) F.1 F.2.1 dL_law_17 rfl hl (by decide) rfl (fun ls hl => ?_)
  exact law_loop F hr hlocks hX hbl hL hK hG (L + 5) 0 (by omega) (by omega) (by omega) (fun _ => 0) (fun _ => 0) (fun _ => 0) (fun _ => 0) (fun _ => 0) (m0 mFar0) (m0 mFar0) (m0 mFar0) (m0 mFar0) (fun _ => 0) (fun _ => 0) (fun _ => 0) (fun _ => 0) (fun _ => 0) (fun _ => 0) (fun _ => 0) (fun _ => 0) (fun _ => 0) (fun _ => 0) H locs ls gInv0 hP hD hS (lv_sub hl [3, 2, 1, 0] rfl)
set_option maxHeartbeats 4000000 in
theorem lw_walk (l : Launch) (hflags : l.flags = flags0) (b : Addr) (xs : List Int32) : MetFree l x (headSpec (Jvm.Cond.code x code maxLocals ret :: tables_1) room_1) (lw_P b xs) (fun _ _ _ _ _ => True) lw_Q := by
  refine MetFree.of_bodyS (code := code) (maxLocals := maxLocals) (ret := ret) (by decide) ?_ ?_
  · intro args s m h hn
    obtain ⟨meth, c, h1, h2, h3, h4, h5, h6, -, -⟩ := Cond.code_spec hn (atoms_spec (ws := Jvm.Cond.code x code maxLocals ret :: tables_1) h _ List.mem_cons_self)
    exact ⟨meth, c, h1, h2, h3, h4, h5, h6⟩
  · intro p e s m args below meth c s₁ B hml0 hP _
    obtain ⟨rfl, hx, hbd, hgv⟩ := hP
    obtain ⟨scr, harrAt, hlist, hof, hsmall⟩ := hx
    obtain ⟨hcb, hkn, -, -⟩ := State.arrayAt?_spec harrAt
    have hown : s.vm.findClass R_law = some m.cls := findClass_of_methodNamed B.named
    have hts0 : ∀ c ∈ (Jvm.Cond.code x code maxLocals ret :: tables_1), c.before #[Value.ref b] s = true := atoms_spec (ws := Jvm.Cond.code x code maxLocals ret :: tables_1) B.pre
    have hts : ∀ w ∈ lw_tbl, w.before #[Value.ref b] s = true := k2_hts_sels lw_privs (fun w hw => hts0 w (List.mem_cons_of_mem _ hw)) lw_privs_ok
    have hml : c.maxLocals = 4 := B.maxLocals_eq (hts0 _ List.mem_cons_self)
    have X₀ : Stand p l e room_1 s m #[Value.ref b] below meth c s₁ [] 0 0 := Stand.of_body B
    have hh0 : s₁.heap = s.heap := by rw [B.state]; rfl
    have hsz : scr.slots.size = xs.length := by rw [← Array.length_toList, hlist, List.length_map]
    have hval : ∀ j : Nat, j < xs.length → scr.slots[j]? = some (.int (xs.getD j 0)) := fun j hj => by
      rw [← Array.getElem?_toList, hlist]
      simp [hj]
    have hbl : b < s.heap.size := (Array.getElem?_eq_some_iff.mp hcb).1
    have hX : va_X b xs.length (fun j => xs.getD j 0) s s.heap := ⟨scr, hcb, hof, hkn, hsz, hval⟩
    have K : W p l e room_1 s m #[Value.ref b] below meth c s₁.heap [] 0 0 (lw_Z below #[Value.ref b] s) (entryFrame m ([Value.ref b] : List Value).toArray 4) := by
      rw [hh0]
      exact whole_start l hflags hbd ⟨B.exec, B.bytes, B.returns, hml, hown, hts, hX, hbl, B.notSynchronized, hgv⟩
    obtain ⟨t, a1, o, b1, b2, b3⟩ := K s₁ rfl X₀
    exact ⟨t, o, a1, b1, b2, b3⟩
theorem lw_pre_spec {args : Array Value} {s : State} (h : (Jvm.Cond.and given_1 narrow_1).before args s = true) (hr : rest_1_c.before args s = true) : ∃ (b : Addr) (xs : List Int32), lw_P b xs args s := by
  have hs := flat_of_before _ h
  have hq := flat_of_before _ hr
  have hc : (Cond.count 1).before args s = true := hs _ (by decide +kernel)
  have harr : (Cond.arrayOf (.arg 0) .int).before args s = true := hs _ (by decide +kernel)
  have hle : (Cond.le (.length (.arg 0)) (.int 2048)).before args s = true := hs _ (by decide +kernel)
  have hlen : (Cond.isInt (.length (.arg 0))).before args s = true := hq _ (by decide +kernel)
  have hall : (Cond.all (.arg 0) (.isInt (.elem (.arg 0) (.index 0)))).before args s = true := hq _ (by decide +kernel)
  obtain ⟨b, xs, hb, hx⟩ := State.ints_of_pre rfl harr hlen hall
  have hsm : xs.length < 2 ^ 31 := hx.choose_spec.2.2.2
  have hev : (Term.length (.arg 0)).eval args s none [] s = some (.int xs.length.toInt32) := hx.length_eval hb
  have hv := Cond.le_ints hev (show (Term.int 2048).eval args s none [] s = some (.int 2048) from rfl)
  have hd : xs.length.toInt32 ≤ 2048 := by
    simpa [Cond.before, Cond.holds, hv] using hle
  have hN : xs.length ≤ 2048 := (Int32.ofNat_le_ofNat hsm (by decide)).mp (show Int32.ofNat xs.length ≤ Int32.ofNat 2048 from hd)
  exact ⟨b, xs, Cond.one_arg hc (show args[0]? = some (.ref b) from hb), hx, hN, h⟩
theorem lw_comes (l : Launch) (hflags : l.flags = flags0) : Comes l x (Jvm.Cond.code x code maxLocals ret :: tables_1) room_1 (fun tb e args s => Calls_1 tb e args s ∧ rest_1 tb e args s ∧ Pre_1 tb e args s)
    (fun _ _ args s o t => lw_Q args s o t) := by
  intro p e ha hc hk s m args below hf hfit hheap happ hpre
  obtain ⟨b, xs, hP⟩ := lw_pre_spec hpre.2.2 hpre.2.1
  obtain ⟨k, o, h1, h2, h3, hQ⟩ := lw_walk l hflags b xs p e ha hc hk s m args below hf ((Spec.applies_iff_loose hf).mp happ).1 hP trivial
  exact ⟨k, o, h1, h2, h3, hQ⟩
theorem lw_frame {s t : State} {o : Outcome} {args : Array Value} (h : Framed s o t [] 75 1865) :
    Framed s o t (fieldLocs frame_1_writes args s ++ arrayLocs frame_1_arrays args s ++ staticLocs frame_1_statics s) 75 1865 := h
theorem lw_limb (L : Cond) (hL : ∀ (args : Array Value) (s t : State), L.after args s (.returned (some (.int 1))) t = true) :
    ArmFor flags0 classFile x code maxLocals ret World_1 tables_1 room_1 Calls_1 rest_1 Pre_1
      (fun tb e a s o t => postC L tb e a s o t ∧ Framed s o t (fieldLocs frame_1_writes a s ++ arrayLocs frame_1_arrays a s ++ staticLocs frame_1_statics s) 75 1865) := by
  intro l hflags _ _ p e ha hc hk s m args below hf hfit hheap happ hpre
  obtain ⟨k, o, h1, h2, h3, rfl, hF⟩ := lw_comes l hflags p e ha hc hk s m args below hf hfit hheap happ hpre
  exact ⟨k, _, h1, h2, h3, hL args s _, lw_frame hF⟩
theorem i_vc : Claimed_1_1 ∧ Claimed_1_2 := ⟨lw_limb limb_1_1 (fun args s t => by simp [limb_1_1, Cond.after, Cond.holds, Cond.value]), lw_limb limb_1_2 (fun args s t => Cond.after_iff.mpr (by
  first | (rw [show limb_1_2 = Cond.eq .result (.int 1) from rfl, Cond.eq_ints (x := 1) (y := 1) rfl rfl]; simp; done) | (simp [limb_1_2, Cond.value, Term.eval]; done)))⟩
