/-! the String constant of Letters: its cells, that nobody writes; contracts that know it -/
def gStr (kS vS : Nat) (A : Nat → Prop) (U : State) (H : Heap) : Prop := vk_R "GreenHorseUpstairs$Letters" 23 "ldcmng" kS U ∧ vk_S 1 [6] [[108, 100, 99, 109, 110, 103]] (fun _ => kS) (fun _ => vS) A U H ∧ va_Z "java/lang/String" "COMPACT_STRINGS" "Z" (.int (iI 1)) A U H
theorem gStr.call {kS vS : Nat} {A B : Nat → Prop} {s U : State} {H : Heap} {locs : List Loc} (h : gStr kS vS A s s.heap) (hS : va_S A s.heap H locs) (hAB : ∀ q, B q → A q) (hU : U.heap = H) (hW : s.WarmedH U.vm) : gStr kS vS B U U.heap := by
  rw [hU]
  exact ⟨vk_R.warm hW h.1, ((h.2.1.kept hS.2.1).narrow hAB).moved hW.alike, ((h.2.2.kept hS.2.1).narrow hAB).moved hW.alike⟩
def gPreRs (D : va_G) (cy : ClassId) (kS vS : Nat) (sz : Nat) (B : va_W) (U : State) : Prop := gPreR D cy sz B U ∧ gStr kS vS (va_A [] sz) U U.heap
def gPreIs (D : va_G) (cy : ClassId) (kS vS : Nat) (sz : Nat) (B : va_W) (U : State) : Prop := gPre D cy sz B U ∧ gStr kS vS (va_A B sz) U U.heap
def MetRs (l : Launch) (y : MethodName) (ws : List Cond) (rm : Room) (D : va_G) (cy : ClassId) (kS vS : Nat) (av : List Value) (B : va_W) (Q : Int → Prop) : Prop :=
  ∀ sz : Nat, Met l y ws rm (va_Pc av (gPreRs D cy kS vS sz B)) (va_Qi (fun r (u : Int) => r = iI u ∧ Q u) (fun _ _ => True) (va_A [] sz)) 0 0 (va_A [] sz)
def MetIs {S : Type} (l : Launch) (y : MethodName) (ws : List Cond) (rm : Room) (D : va_G) (cy : ClassId) (kS vS : Nat) (av : List Value) (B : va_W) (B' : S → va_W) (Q : Int → S → Prop) : Prop :=
  ∀ sz : Nat, Met l y ws rm (va_Pc av (gPreIs D cy kS vS sz B)) (va_Qi (fun r (u : Int × S) => r = iI u.1 ∧ Q u.1 u.2) (fun u t => gPo D (va_A B sz) (B' u.2) t) (va_A B sz)) 0 0 (va_A B sz)
theorem gStr.blind {kS vS : Nat} {A : Nat → Prop} {a : Array Value} {U : State} {g : JFrame} {mk : MethodId} (h : gStr kS vS A U U.heap) : gStr kS vS A (U.calling g mk a) (U.calling g mk a).heap :=
  ⟨vk_R.same (u := U) (U := U.calling g mk a) rfl h.1, vk_S.moved (u := U) (U := U.calling g mk a) (Vm.Alike.refl U.vm) h.2.1, va_Z.moved (u := U) (U := U.calling g mk a) (Vm.Alike.refl U.vm) h.2.2⟩
theorem gPreRs_blind {D : va_G} {cy : ClassId} {kS vS : Nat} {sz : Nat} {B : va_W} {av : List Value} : FrameBlind (va_Pc av (gPreRs D cy kS vS sz B)) := fun a U g mk q => by
  obtain ⟨q0, ⟨q1, qP, qK⟩, qG⟩ := q
  exact ⟨q0, ⟨q1, qP, va_K.moved (u := U) (U := U.calling g mk a) (Vm.Alike.refl U.vm) qK⟩, qG.blind⟩
theorem gPreIs_blind {D : va_G} {cy : ClassId} {kS vS : Nat} {sz : Nat} {B : va_W} {av : List Value} : FrameBlind (va_Pc av (gPreIs D cy kS vS sz B)) := fun a U g mk q => by
  obtain ⟨q0, ⟨q1, qP, qK, qD⟩, qG⟩ := q
  exact ⟨q0, ⟨q1, qP, va_K.moved (u := U) (U := U.calling g mk a) (Vm.Alike.refl U.vm) qK, qD⟩, qG.blind⟩
set_option maxHeartbeats 1000000 in
theorem gI_Rs {l : Launch} {y : MethodName} {D : va_G} {cy : ClassId} {kS vS : Nat} {av : List Value} {B : va_W} {cc : ByteArray} {maxL : Nat} {rt : FieldType} {rm : Room} {Q : Int → Prop} (hy : plainName y.cls = true) (hlen : (lg_sl av).length ≤ maxL)
    (body : ∀ (p : Program) (e : Env) (s : State) (m : MethodId) (args : Array Value) (below : List Frame) (meth : Method) (c : Code) (A : Nat → Prop) (Qg : State → Prop), CallFix p m c cc maxL s args gT y.cls → va_K D vwCl [(cy, .int)] s → (∀ q : Nat, s.heap.size ≤ q → A q) → gStr kS vS A s s.heap →
      (∀ (u : Int) (H : Heap) (locs : List Loc) (pc : Nat) (ls : Array Slot), Q u → narrow rt (.int (iI u)) = .int (iI u) → va_S A s.heap H locs → decode cc pc = .ok (.ireturn, 1) → W p l e rm s m args below meth c H locs 0 0 Qg (F0 m pc ls [.int (iI u)])) →
      ∀ (H : Heap) (locs : List Loc) (ls : Array Slot), lv_has ls maxL (lv_args 0 av) → va_P D vwCl B H → va_S A s.heap H locs → W p l e rm s m args below meth c H locs 0 0 Qg (F0 m 0 ls [])) : MetRs l y (wT y cc maxL (some rt)) rm D cy kS vS av B Q := by
  intro sz
  refine Met.ofW (cc := cc) (maxL := maxL) (ret := some rt) hy rfl ?_
  intro p e s m args below meth c s₁ X hml hv
  obtain ⟨rfl, ⟨hsz, hP, hK⟩, hG⟩ := hv
  subst hsz
  have F : CallFix p m c cc maxL s av.toArray gT y.cls := ⟨X.exec, X.bytes, hml, findClass_of_methodNamed X.named, fun w hw => atoms_spec (ws := wT y cc maxL (some rt)) X.pre w (List.mem_cons_of_mem _ hw)⟩
  have hr := X.returns
  have hlocks := X.notSynchronized
  rw [lg_entry_eq]
  refine body p e s m av.toArray below meth c (va_A [] s.heap.size) _ F hK (fun q h => Or.inr h) hG ?_ s.heap [] _ (lv_entry av hlen) hP va_S.rf
  intro u H locs pc ls hu hn hS hdg
  exact W.zret F.1 F.2.1 hr hn (fun t ht hW => ⟨⟨iI u, u, rfl, ⟨rfl, hu⟩, trivial⟩, hS.F ht⟩) hS.2.2 hdg
set_option maxHeartbeats 1000000 in
theorem gI_Is {S : Type} {l : Launch} {y : MethodName} {D : va_G} {cy : ClassId} {kS vS : Nat} {av : List Value} {B : va_W} {B' : S → va_W} {cc : ByteArray} {maxL : Nat} {rt : FieldType} {rm : Room} {Q : Int → S → Prop} (hy : plainName y.cls = true) (hlen : (lg_sl av).length ≤ maxL)
    (body : ∀ (p : Program) (e : Env) (s : State) (m : MethodId) (args : Array Value) (below : List Frame) (meth : Method) (c : Code) (A : Nat → Prop) (Qg : State → Prop), CallFix p m c cc maxL s args gT y.cls → va_K D vwCl [(cy, .int)] s → (∀ q : Nat, s.heap.size ≤ q → A q) → gStr kS vS A s s.heap →
      (∀ (r : Int) (u : S) (H : Heap) (locs : List Loc) (pc : Nat) (ls : Array Slot), Q r u → narrow rt (.int (iI r)) = .int (iI r) → va_P D vwCl (B' u) H → va_D A (B' u) → va_S A s.heap H locs → decode cc pc = .ok (.ireturn, 1) → W p l e rm s m args below meth c H locs 0 0 Qg (F0 m pc ls [.int (iI r)])) →
      ∀ (H : Heap) (locs : List Loc) (ls : Array Slot), lv_has ls maxL (lv_args 0 av) → va_P D vwCl B H → va_D A B → va_S A s.heap H locs → W p l e rm s m args below meth c H locs 0 0 Qg (F0 m 0 ls [])) : MetIs l y (wT y cc maxL (some rt)) rm D cy kS vS av B B' Q := by
  intro sz
  refine Met.ofW (cc := cc) (maxL := maxL) (ret := some rt) hy rfl ?_
  intro p e s m args below meth c s₁ X hml hv
  obtain ⟨rfl, ⟨hsz, hP, hK, hD0⟩, hG⟩ := hv
  subst hsz
  have F : CallFix p m c cc maxL s av.toArray gT y.cls := ⟨X.exec, X.bytes, hml, findClass_of_methodNamed X.named, fun w hw => atoms_spec (ws := wT y cc maxL (some rt)) X.pre w (List.mem_cons_of_mem _ hw)⟩
  have hr := X.returns
  have hlocks := X.notSynchronized
  rw [lg_entry_eq]
  refine body p e s m av.toArray below meth c (va_A B s.heap.size) _ F hK (fun q h => Or.inr h) hG ?_ s.heap [] _ (lv_entry av hlen) hP hD0.self va_S.rf
  intro r u H locs pc ls hu hn hP1 hD1 hS hdg
  exact W.zret F.1 F.2.1 hr hn (fun t ht hW => ⟨⟨iI r, (r, u), rfl, ⟨rfl, hu⟩, by refine ⟨?_, hD1⟩; rw [ht]; exact hP1⟩, hS.F ht⟩) hS.2.2 hdg
section GV3
variable {p : Program} {l : Launch} {e : Env} {R : Room} {s : State} {m : MethodId} {args : Array Value} {below : List Frame} {meth : Method} {c : Code} {H : Heap} {locs : List Loc} {cells slots : Nat} {Q : State → Prop}
variable {cc : ByteArray} {nL : Nat} {own : String} {pc : Nat} {ls : Array Slot} {rest : List Value} {D : va_G} {cy : ClassId} {A : Nat → Prop} {H0 : Heap} {ws : va_W}
variable {kS vS : Nat}
set_option maxHeartbeats 1000000 in
theorem gcs_VR (F : CallFix p m c cc nL s args gT own) {y : MethodName} {bytes : ByteArray} {maxL n idx : Nat} {ret : Option FieldType} {wy : List Cond} {rm : Room} {B : va_W} {As : List Value} {st0 : List Value} {Qc : Int → Prop} {C : String} {T0 : u_T} {N0 ci b : Nat} {fs : List Value} (hK : va_K D vwCl [(cy, .int)] s) (hA : ∀ q : Nat, s.heap.size ≤ q → A q) (hP : va_P D vwCl ws H) (hG : gStr kS vS A s s.heap) (hS : va_S A s.heap H locs) (hPB : va_P D vwCl B H) (hM : MetRs l y wy rm D cy kS vS (.ref b :: As) B Qc) (cw : CallW R s args own C idx y bytes maxL ret wy rm 0 0 n) (hb : B[0]? = some (b, .inr (ci, fs))) (hci : vwCl[ci]? = some (C, T0, N0)) (hdg : decode cc pc = .ok (.invokevirtual idx, 3)) (hst : st0 = As.reverse ++ .ref b :: rest) (hn : As.length = n) (hl : ls.size = nL) (hroom : (rest.map fun v => v.category).sum ≤ 8) (hc : cells ≤ R.cells ∧ slots ≤ R.slots)
    (k : ∀ (u : Int) (H : Heap) (locs : List Loc), Qc u → va_P D vwCl ws H → va_S A s.heap H locs → W p l e R s m args below meth c H locs cells slots Q (F0 m (pc + 3) ls (.int (iI u) :: rest))) : W p l e R s m args below meth c H locs cells slots Q (F0 m pc ls st0) := by
  have hF : ∀ q : Nat, va_A [] H.size q → A q := fun q h => by
    rcases h with ⟨k2, x, h⟩ | h
    · simp at h
    · exact hA q (Nat.le_trans hS.1 h)
  refine va_calli (va_runV (As := As) (rest := rest) F (hM H.size) cw ⟨gPreRs_blind, va_recv hK hPB hci hb, fun U hU hW => ⟨rfl, ⟨by rw [hU], by rw [hU]; exact hPB, va_K.moved hW.alike hK⟩, hG.call hS hF hU hW⟩⟩ rfl hn hl hst (lv_room hroom) hdg ⟨hc.1, hc.2⟩) hS (fun q _ h => hF q h) hF (fun r u t H1 locs1 ht hvm hp _ hz hk hS1 => ?_)
  obtain ⟨rfl, hq⟩ := hp
  exact k u H1 locs1 hq (hP.kept (fun i q hi => hk q.1 (hP i q hi).lt (fun h => by
    rcases h with ⟨k2, x, h⟩ | h
    · simp at h
    · exact absurd (hP i q hi).lt (Nat.not_lt.mpr h)))) hS1
set_option maxHeartbeats 1000000 in
theorem gcs_KR (F : CallFix p m c cc nL s args gT own) {y : MethodName} {bytes : ByteArray} {maxL n idx : Nat} {ret : Option FieldType} {wy : List Cond} {rm : Room} {B : va_W} {As : List Value} {st0 : List Value} {Qc : Int → Prop}  (hK : va_K D vwCl [(cy, .int)] s) (hA : ∀ q : Nat, s.heap.size ≤ q → A q) (hP : va_P D vwCl ws H) (hG : gStr kS vS A s s.heap) (hS : va_S A s.heap H locs) (hPB : va_P D vwCl B H) (hM : MetRs l y wy rm D cy kS vS (.ref kS :: As) B Qc) (cw : CallW R s args own "java/lang/String" idx y bytes maxL ret wy rm 0 0 n) (hdg : decode cc pc = .ok (.invokevirtual idx, 3)) (hst : st0 = As.reverse ++ .ref kS :: rest) (hn : As.length = n) (hl : ls.size = nL) (hroom : (rest.map fun v => v.category).sum ≤ 8) (hc : cells ≤ R.cells ∧ slots ≤ R.slots)
    (k : ∀ (u : Int) (H : Heap) (locs : List Loc), Qc u → va_P D vwCl ws H → va_S A s.heap H locs → W p l e R s m args below meth c H locs cells slots Q (F0 m (pc + 3) ls (.int (iI u) :: rest))) : W p l e R s m args below meth c H locs cells slots Q (F0 m pc ls st0) := by
  have hF : ∀ q : Nat, va_A [] H.size q → A q := fun q h => by
    rcases h with ⟨k2, x, h⟩ | h
    · simp at h
    · exact hA q (Nat.le_trans hS.1 h)
  refine va_calli (va_runV (As := As) (rest := rest) F (hM H.size) cw ⟨gPreRs_blind, vk_recv hG.2.1 (i := 0) (by decide) hS, fun U hU hW => ⟨rfl, ⟨by rw [hU], by rw [hU]; exact hPB, va_K.moved hW.alike hK⟩, hG.call hS hF hU hW⟩⟩ rfl hn hl hst (lv_room hroom) hdg ⟨hc.1, hc.2⟩) hS (fun q _ h => hF q h) hF (fun r u t H1 locs1 ht hvm hp _ hz hk hS1 => ?_)
  obtain ⟨rfl, hq⟩ := hp
  exact k u H1 locs1 hq (hP.kept (fun i q hi => hk q.1 (hP i q hi).lt (fun h => by
    rcases h with ⟨k2, x, h⟩ | h
    · simp at h
    · exact absurd (hP i q hi).lt (Nat.not_lt.mpr h)))) hS1
set_option maxHeartbeats 1000000 in
theorem gcs_SR (F : CallFix p m c cc nL s args gT own) {y : MethodName} {bytes : ByteArray} {maxL n idx : Nat} {ret : Option FieldType} {wy : List Cond} {rm : Room} {B : va_W} {As : List Value} {st0 : List Value} {Qc : Int → Prop}  (hK : va_K D vwCl [(cy, .int)] s) (hA : ∀ q : Nat, s.heap.size ≤ q → A q) (hP : va_P D vwCl ws H) (hG : gStr kS vS A s s.heap) (hS : va_S A s.heap H locs) (hPB : va_P D vwCl B H) (hM : MetRs l y wy rm D cy kS vS As B Qc) (cw : CallB R s args own idx y bytes maxL ret wy rm 0 0 n ∧ (Cond.static y).before args s = true) (hdg : decode cc pc = .ok (.invokestatic idx, 3)) (hst : st0 = As.reverse ++ rest) (hn : As.length = n) (hl : ls.size = nL) (hroom : (rest.map fun v => v.category).sum ≤ 8) (hc : cells ≤ R.cells ∧ slots ≤ R.slots)
    (k : ∀ (u : Int) (H : Heap) (locs : List Loc), Qc u → va_P D vwCl ws H → va_S A s.heap H locs → W p l e R s m args below meth c H locs cells slots Q (F0 m (pc + 3) ls (.int (iI u) :: rest))) : W p l e R s m args below meth c H locs cells slots Q (F0 m pc ls st0) := by
  have hF : ∀ q : Nat, va_A [] H.size q → A q := fun q h => by
    rcases h with ⟨k2, x, h⟩ | h
    · simp at h
    · exact hA q (Nat.le_trans hS.1 h)
  refine va_calli (va_runS (As := As) (rest := rest) F (hM H.size) cw ⟨gPreRs_blind, fun U hU hW => ⟨rfl, ⟨by rw [hU], by rw [hU]; exact hPB, va_K.moved hW.alike hK⟩, hG.call hS hF hU hW⟩⟩ rfl hn hl hst (lv_room hroom) hdg ⟨hc.1, hc.2⟩) hS (fun q _ h => hF q h) hF (fun r u t H1 locs1 ht hvm hp _ hz hk hS1 => ?_)
  obtain ⟨rfl, hq⟩ := hp
  exact k u H1 locs1 hq (hP.kept (fun i q hi => hk q.1 (hP i q hi).lt (fun h => by
    rcases h with ⟨k2, x, h⟩ | h
    · simp at h
    · exact absurd (hP i q hi).lt (Nat.not_lt.mpr h)))) hS1
set_option maxHeartbeats 1000000 in
theorem gcs_VI (F : CallFix p m c cc nL s args gT own) {S : Type} {y : MethodName} {bytes : ByteArray} {maxL n idx : Nat} {ret : Option FieldType} {wy : List Cond} {rm : Room} {B : va_W} {As : List Value} {st0 : List Value} {B1 : S → va_W} {Qc : Int → S → Prop} {wn : S → va_W} {C : String} {T0 : u_T} {N0 ci b : Nat} {fs : List Value} (hK : va_K D vwCl [(cy, .int)] s) (hA : ∀ q : Nat, s.heap.size ≤ q → A q) (hP : va_P D vwCl ws H) (hD : va_D A ws) (hG : gStr kS vS A s s.heap) (hS : va_S A s.heap H locs) (hPB : va_P D vwCl B H) (hDB : va_D A B) (hJ : ∀ (u : S) (H1 : Heap), (∀ q : Nat, q < H.size → ¬ va_A B H.size q → H1[q]? = H[q]?) → va_P D vwCl (B1 u) H1 → va_D A (B1 u) → va_P D vwCl (wn u) H1 ∧ va_D A (wn u)) (hM : MetIs l y wy rm D cy kS vS (.ref b :: As) B B1 Qc) (cw : CallW R s args own C idx y bytes maxL ret wy rm 0 0 n) (hb : B[0]? = some (b, .inr (ci, fs))) (hci : vwCl[ci]? = some (C, T0, N0)) (hdg : decode cc pc = .ok (.invokevirtual idx, 3)) (hst : st0 = As.reverse ++ .ref b :: rest) (hn : As.length = n) (hl : ls.size = nL) (hroom : (rest.map fun v => v.category).sum ≤ 8) (hc : cells ≤ R.cells ∧ slots ≤ R.slots)
    (k : ∀ (r : Int) (u : S) (H : Heap) (locs : List Loc), Qc r u → va_P D vwCl (wn u) H → va_D A (wn u) → va_S A s.heap H locs → W p l e R s m args below meth c H locs cells slots Q (F0 m (pc + 3) ls (.int (iI r) :: rest))) : W p l e R s m args below meth c H locs cells slots Q (F0 m pc ls st0) := by
  have hF : ∀ q : Nat, va_A B H.size q → A q := fun q h => by
    rcases h with ⟨k2, x, h⟩ | h
    · exact hDB.2 k2 _ h
    · exact hA q (Nat.le_trans hS.1 h)
  refine va_calli (va_runV (As := As) (rest := rest) F (hM H.size) cw ⟨gPreIs_blind, va_recv hK hPB hci hb, fun U hU hW => ⟨rfl, ⟨by rw [hU], by rw [hU]; exact hPB, va_K.moved hW.alike hK, hDB.weaken (fun _ _ _ _ => trivial)⟩, hG.call hS hF hU hW⟩⟩ rfl hn hl hst (lv_room hroom) hdg ⟨hc.1, hc.2⟩) hS (fun q _ h => hF q h) hF (fun r u t H1 locs1 ht hvm hp hb2 hz hk hS1 => ?_)
  obtain ⟨hP1, hD1⟩ := hb2
  rw [ht] at hP1
  obtain ⟨hP2, hD2⟩ := hJ u.2 H1 hk hP1 (hD1.weaken (fun _ q _ h => hF q.1 h))
  obtain ⟨rfl, hq⟩ := hp
  exact k u.1 u.2 H1 locs1 hq hP2 hD2 hS1
end GV3
theorem hd_J0_isLatin1_aae02 : yJ0_isLatin1_aae02.cls ≠ "java/lang/invoke/MethodHandle" ∧ yJ0_isLatin1_aae02.cls ≠ "java/lang/invoke/VarHandle" ∧ (parseMethodDescriptor yJ0_isLatin1_aae02.desc).map (fun d => d.parameters.length) = some 0 := by decide +kernel
theorem hd_J0_coder_7d493 : yJ0_coder_7d493.cls ≠ "java/lang/invoke/MethodHandle" ∧ yJ0_coder_7d493.cls ≠ "java/lang/invoke/VarHandle" ∧ (parseMethodDescriptor yJ0_coder_7d493.desc).map (fun d => d.parameters.length) = some 0 := by decide +kernel
theorem hd_J0_length_8abf5 : yJ0_length_8abf5.cls ≠ "java/lang/invoke/MethodHandle" ∧ yJ0_length_8abf5.cls ≠ "java/lang/invoke/VarHandle" ∧ (parseMethodDescriptor yJ0_length_8abf5.desc).map (fun d => d.parameters.length) = some 0 := by decide +kernel
theorem hd_J1_canEncode_9a6ad : yJ1_canEncode_9a6ad.cls ≠ "java/lang/invoke/MethodHandle" ∧ yJ1_canEncode_9a6ad.cls ≠ "java/lang/invoke/VarHandle" ∧ (parseMethodDescriptor yJ1_canEncode_9a6ad.desc).map (fun d => d.parameters.length) = some 1 := by decide +kernel
theorem hd_J1_indexOf_4cfef : yJ1_indexOf_4cfef.cls ≠ "java/lang/invoke/MethodHandle" ∧ yJ1_indexOf_4cfef.cls ≠ "java/lang/invoke/VarHandle" ∧ (parseMethodDescriptor yJ1_indexOf_4cfef.desc).map (fun d => d.parameters.length) = some 4 := by decide +kernel
theorem hd_J1_indexOfChar_4cfef : yJ1_indexOfChar_4cfef.cls ≠ "java/lang/invoke/MethodHandle" ∧ yJ1_indexOfChar_4cfef.cls ≠ "java/lang/invoke/VarHandle" ∧ (parseMethodDescriptor yJ1_indexOfChar_4cfef.desc).map (fun d => d.parameters.length) = some 4 := by decide +kernel
theorem hd_J0_indexOf_7cf53 : yJ0_indexOf_7cf53.cls ≠ "java/lang/invoke/MethodHandle" ∧ yJ0_indexOf_7cf53.cls ≠ "java/lang/invoke/VarHandle" ∧ (parseMethodDescriptor yJ0_indexOf_7cf53.desc).map (fun d => d.parameters.length) = some 2 := by decide +kernel
theorem hd_J0_indexOf_0f7a4 : yJ0_indexOf_0f7a4.cls ≠ "java/lang/invoke/MethodHandle" ∧ yJ0_indexOf_0f7a4.cls ≠ "java/lang/invoke/VarHandle" ∧ (parseMethodDescriptor yJ0_indexOf_0f7a4.desc).map (fun d => d.parameters.length) = some 1 := by decide +kernel
theorem iI_i2b {x : Int} (h : 0 ≤ x ∧ x ≤ 255) : (iI x).toInt8.toInt32 = iI (if x ≤ 127 then x else x - 256) := by
  obtain ⟨n, rfl⟩ := Int.eq_ofNat_of_zero_le h.1
  have key : ∀ n : Nat, n < 256 → (iI (n : Int)).toInt8.toInt32 = iI (if (n : Int) ≤ 127 then (n : Int) else (n : Int) - 256) := by decide +kernel
  exact key n (by omega)
theorem iI_i2c {x : Int} (h : 0 ≤ x ∧ x ≤ 255) : ((iI x).toUInt32 % 65536).toInt32 = iI x := by
  obtain ⟨n, rfl⟩ := Int.eq_ofNat_of_zero_le h.1
  have key : ∀ n : Nat, n < 256 → ((iI (n : Int)).toUInt32 % 65536).toInt32 = iI (n : Int) := by decide +kernel
  exact key n (by omega)
abbrev rJ0_isLatin1_aae02 : Room := { frames := 0, cells := 0, slots := 0, locals := 0 }
set_option maxHeartbeats 4000000 in
set_option maxRecDepth 20000 in
theorem c_J0_isLatin1_aae02 (l : Launch) (D : va_G) (cy : ClassId) (kS vS : Nat) : MetRs l yJ0_isLatin1_aae02 (wT yJ0_isLatin1_aae02 cJ0_isLatin1_aae02 1 (some .boolean)) rJ0_isLatin1_aae02 D cy kS vS [.ref kS] [] (fun u => u = 1) := by
  refine gI_Rs (by decide) (Nat.le_of_ble_eq_true rfl) ?_
  intro p e s m args below meth c A Qg F hK hA hG ret H locs ls hl hP hS
  have F : CallFix p m c cJ0_isLatin1_aae02 1 s args gT RJ0 := F
  have hl : lv_has ls 1 [(0, .ref kS)] := hl
  refine va_gets F.1 F.2.1 hG.2.2 hS F.2.2.2.1 (F.2.2.2.2 _ k270) (fun _ h => h) dJ0_isLatin1_aae02_0 ?_
  refine gv_if_eq (a := 1) (tgt := 17) F ⟨by decide, by decide⟩ dJ0_isLatin1_aae02_3 (by decide) (fun c1 => absurd c1 (by decide)) (fun _ => ?_)
  refine lv_aload_n F.1 F.2.1 dJ0_isLatin1_aae02_6 rfl (lv_at hl 0 rfl) ?_
  refine vk_getf F.1 F.2.1 (hG.2.1.1 0 (by decide)).2.1 hS F.2.2.2.1 (F.2.2.2.2 _ k1112) (fun _ h => h) dJ0_isLatin1_aae02_7 ?_
  refine gv_if_ne (a := 0) (tgt := 17) F ⟨by decide, by decide⟩ dJ0_isLatin1_aae02_10 (by decide) (fun c1 => absurd rfl c1) (fun _ => ?_)
  refine gv_iconst F dJ0_isLatin1_aae02_13 ?_
  refine lv_goto (tgt := 18) F.1 F.2.1 dJ0_isLatin1_aae02_14 (by decide) ?_
  exact ret 1 H locs 18 ls rfl rfl hS dJ0_isLatin1_aae02_18
abbrev rJ0_coder_7d493 : Room := { frames := 0, cells := 0, slots := 0, locals := 0 }
set_option maxHeartbeats 4000000 in
set_option maxRecDepth 20000 in
theorem c_J0_coder_7d493 (l : Launch) (D : va_G) (cy : ClassId) (kS vS : Nat) : MetRs l yJ0_coder_7d493 (wT yJ0_coder_7d493 cJ0_coder_7d493 1 (some .byte)) rJ0_coder_7d493 D cy kS vS [.ref kS] [] (fun u => u = 0) := by
  refine gI_Rs (by decide) (Nat.le_of_ble_eq_true rfl) ?_
  intro p e s m args below meth c A Qg F hK hA hG ret H locs ls hl hP hS
  have F : CallFix p m c cJ0_coder_7d493 1 s args gT RJ0 := F
  have hl : lv_has ls 1 [(0, .ref kS)] := hl
  refine va_gets F.1 F.2.1 hG.2.2 hS F.2.2.2.1 (F.2.2.2.2 _ k270) (fun _ h => h) dJ0_coder_7d493_0 ?_
  refine gv_if_eq (a := 1) (tgt := 13) F ⟨by decide, by decide⟩ dJ0_coder_7d493_3 (by decide) (fun c1 => absurd c1 (by decide)) (fun _ => ?_)
  refine lv_aload_n F.1 F.2.1 dJ0_coder_7d493_6 rfl (lv_at hl 0 rfl) ?_
  refine vk_getf F.1 F.2.1 (hG.2.1.1 0 (by decide)).2.1 hS F.2.2.2.1 (F.2.2.2.2 _ k1112) (fun _ h => h) dJ0_coder_7d493_7 ?_
  refine lv_goto (tgt := 14) F.1 F.2.1 dJ0_coder_7d493_10 (by decide) ?_
  exact ret 0 H locs 14 ls rfl rfl hS dJ0_coder_7d493_14
abbrev rJ0_length_8abf5 : Room := { frames := 1, cells := 0, slots := 0, locals := 20 }
set_option maxHeartbeats 4000000 in
set_option maxRecDepth 20000 in
theorem c_J0_length_8abf5 (l : Launch) (D : va_G) (cy : ClassId) (kS vS : Nat) : MetRs l yJ0_length_8abf5 (wT yJ0_length_8abf5 cJ0_length_8abf5 1 (some .int)) rJ0_length_8abf5 D cy kS vS [.ref kS] [] (fun u => u = 6) := by
  refine gI_Rs (by decide) (Nat.le_of_ble_eq_true rfl) ?_
  intro p e s m args below meth c A Qg F hK hA hG ret H locs ls hl hP hS
  have F : CallFix p m c cJ0_length_8abf5 1 s args gT RJ0 := F
  have hl : lv_has ls 1 [(0, .ref kS)] := hl
  refine lv_aload_n F.1 F.2.1 dJ0_length_8abf5_0 rfl (lv_at hl 0 rfl) ?_
  refine vk_getf F.1 F.2.1 (hG.2.1.1 0 (by decide)).2.2.1 hS F.2.2.2.1 (F.2.2.2.2 _ k1113) (fun _ h => h) dJ0_length_8abf5_1 ?_
  refine va_tlen F.1 F.2.1 (hG.2.1.1 0 (by decide)).2.2.2 hS (v := iI 6) rfl dJ0_length_8abf5_4 ?_
  refine lv_aload_n F.1 F.2.1 dJ0_length_8abf5_5 rfl (lv_at hl 0 rfl) ?_
  refine gcs_KR (As := []) F hK hA hP hG hS gPnil (c_J0_coder_7d493 l D cy kS vS) (cwV 0 F.2.2.2.2 (gG_V k276 k277 k278 k68 k279) rfl rfl rfl ⟨rfl, hd_J0_coder_7d493⟩ ⟨Nat.le_of_ble_eq_true rfl, Nat.le_of_ble_eq_true rfl⟩) dJ0_length_8abf5_6 rfl rfl hl.1 (Nat.le_of_ble_eq_true rfl) ⟨Nat.le_of_ble_eq_true rfl, Nat.le_of_ble_eq_true rfl⟩ (fun u H locs h hP hS => ?_)
  subst h
  refine gv_ishr F ⟨by decide, by decide⟩ ⟨by decide, by decide⟩ dJ0_length_8abf5_9 ?_
  exact ret 6 H locs 10 ls rfl rfl hS dJ0_length_8abf5_10
abbrev rJ1_canEncode_9a6ad : Room := { frames := 0, cells := 0, slots := 0, locals := 0 }
set_option maxHeartbeats 4000000 in
set_option maxRecDepth 20000 in
theorem c_J1_canEncode_9a6ad (l : Launch) (D : va_G) (cy : ClassId) (x : Int) (hx : 0 ≤ x ∧ x ≤ 255) : MetR l yJ1_canEncode_9a6ad (wT yJ1_canEncode_9a6ad cJ1_canEncode_9a6ad 1 (some .boolean)) rJ1_canEncode_9a6ad D cy [.int (iI x)] [] (fun u => u = 1) := by
  refine gI_R (by decide) (Nat.le_of_ble_eq_true rfl) ?_
  intro p e s m args below meth c A Qg F hK hA ret H locs ls hl hP hS
  have F : CallFix p m c cJ1_canEncode_9a6ad 1 s args gT RJ1 := F
  have hl : lv_has ls 1 [(0, .int (iI x))] := hl
  refine lv_iload_n F.1 F.2.1 dJ1_canEncode_9a6ad_0 rfl (lv_at hl 0 rfl) ?_
  refine gv_if_lt (tgt := 15) F ⟨by omega, by omega⟩ dJ1_canEncode_9a6ad_1 (by decide) (fun c1 => absurd c1 (by omega)) (fun _ => ?_)
  refine lv_iload_n F.1 F.2.1 dJ1_canEncode_9a6ad_4 rfl (lv_at hl 0 rfl) ?_
  refine gv_sipush F ⟨by decide, by decide⟩ dJ1_canEncode_9a6ad_5 ?_
  refine gv_icmp_gt (tgt := 15) F ⟨by omega, by omega⟩ ⟨by decide, by decide⟩ dJ1_canEncode_9a6ad_8 (by decide) (fun c1 => absurd c1 (by omega)) (fun _ => ?_)
  refine gv_iconst F dJ1_canEncode_9a6ad_11 ?_
  refine lv_goto (tgt := 16) F.1 F.2.1 dJ1_canEncode_9a6ad_12 (by decide) ?_
  exact ret 1 H locs 16 ls rfl rfl hS dJ1_canEncode_9a6ad_16
abbrev rJ1_indexOfChar_4cfef : Room := { frames := 0, cells := 0, slots := 0, locals := 0 }
set_option maxHeartbeats 4000000 in
set_option maxRecDepth 20000 in
theorem c_J1_indexOfChar_4cfef (l : Launch) (D : va_G) (cy : ClassId) (kS vS : Nat) (x : Int) (hx : 0 ≤ x ∧ x ≤ 255) : MetRs l yJ1_indexOfChar_4cfef (wT yJ1_indexOfChar_4cfef cJ1_indexOfChar_4cfef 6 (some .int)) rJ1_indexOfChar_4cfef D cy kS vS [.ref vS, .int (iI x), .int (iI 0), .int (iI 6)] [] (fun u => u = kOf x) := by
  refine gI_Rs (by decide) (Nat.le_of_ble_eq_true rfl) ?_
  intro p e s m args below meth c A Qg F hK hA hG ret H locs ls hl hP hS
  have F : CallFix p m c cJ1_indexOfChar_4cfef 6 s args gT RJ1 := F
  have hl : lv_has ls 6 [(0, .ref vS), (1, .int (iI x)), (2, .int (iI 0)), (3, .int (iI 6))] := hl
  refine lv_iload_n F.1 F.2.1 dJ1_indexOfChar_4cfef_0 rfl (lv_at hl 1 rfl) ?_
  refine lv_i2b F.1 F.2.1 dJ1_indexOfChar_4cfef_1 (iI_i2b hx) ?_
  obtain ⟨w, ew⟩ : ∃ w : Int, w = if x ≤ 127 then x else x - 256 := ⟨_, rfl⟩
  rw [← ew]
  have hw : gR w := by subst ew; split <;> constructor <;> omega
  refine lv_istore (lv' := [(4, .int (iI w)), (0, .ref vS), (1, .int (iI x)), (2, .int (iI 0)), (3, .int (iI 6))]) F.1 F.2.1 dJ1_indexOfChar_4cfef_2 hl (by decide) rfl (fun ls hl => ?_)
  refine lv_iload_n F.1 F.2.1 dJ1_indexOfChar_4cfef_4 rfl (lv_at hl 3 rfl) ?_
  refine lv_istore (lv' := [(5, .int (iI 0)), (4, .int (iI w)), (0, .ref vS), (1, .int (iI x)), (2, .int (iI 0)), (3, .int (iI 6))]) F.1 F.2.1 dJ1_indexOfChar_4cfef_5 hl (by decide) rfl (fun ls hl => ?_)
  refine lv_iload F.1 F.2.1 dJ1_indexOfChar_4cfef_7 (lv_at hl 0 rfl) ?_
  refine lv_iload_n F.1 F.2.1 dJ1_indexOfChar_4cfef_9 rfl (lv_at hl 5 rfl) ?_
  refine gv_icmp_ge (tgt := 31) F ⟨by decide, by decide⟩ ⟨by decide, by decide⟩ dJ1_indexOfChar_4cfef_10 (by decide) (fun c1 => absurd c1 (by decide)) (fun _ => ?_)
  refine lv_aload_n F.1 F.2.1 dJ1_indexOfChar_4cfef_13 rfl (lv_at hl 2 rfl) ?_
  refine lv_iload F.1 F.2.1 dJ1_indexOfChar_4cfef_14 (lv_at hl 0 rfl) ?_
  refine va_tb F.1 F.2.1 (hG.2.1.1 0 (by decide)).2.2.2 hS (i := iI 0) (v := .int (iI 108)) (iI_in (n := 6) ⟨by decide, by decide⟩ (by decide)) rfl dJ1_indexOfChar_4cfef_16 ?_
  refine lv_iload F.1 F.2.1 dJ1_indexOfChar_4cfef_17 (lv_at hl 1 rfl) ?_
  refine gv_icmp_ne (tgt := 25) F ⟨by decide, by decide⟩ hw dJ1_indexOfChar_4cfef_19 (by decide) (fun c2 => ?_) (fun c2 => ?_)
  rotate_left
  · refine lv_iload F.1 F.2.1 dJ1_indexOfChar_4cfef_22 (lv_at hl 0 rfl) ?_
    exact ret 0 H locs 24 ls (by have hx2 : x = 108 := (by split at ew <;> omega); subst hx2; rfl) rfl hS dJ1_indexOfChar_4cfef_24
  refine gv_iinc (lv' := [(5, .int (iI 1)), (4, .int (iI w)), (0, .ref vS), (1, .int (iI x)), (2, .int (iI 0)), (3, .int (iI 6))]) F dJ1_indexOfChar_4cfef_25 hl (k := 0) rfl (x := 1) rfl (by decide) rfl (fun ls hl => ?_)
  refine lv_goto (tgt := 7) F.1 F.2.1 dJ1_indexOfChar_4cfef_28 (by decide) ?_
  refine lv_iload F.1 F.2.1 dJ1_indexOfChar_4cfef_7 (lv_at hl 0 rfl) ?_
  refine lv_iload_n F.1 F.2.1 dJ1_indexOfChar_4cfef_9 rfl (lv_at hl 5 rfl) ?_
  refine gv_icmp_ge (tgt := 31) F ⟨by decide, by decide⟩ ⟨by decide, by decide⟩ dJ1_indexOfChar_4cfef_10 (by decide) (fun c1 => absurd c1 (by decide)) (fun _ => ?_)
  refine lv_aload_n F.1 F.2.1 dJ1_indexOfChar_4cfef_13 rfl (lv_at hl 2 rfl) ?_
  refine lv_iload F.1 F.2.1 dJ1_indexOfChar_4cfef_14 (lv_at hl 0 rfl) ?_
  refine va_tb F.1 F.2.1 (hG.2.1.1 0 (by decide)).2.2.2 hS (i := iI 1) (v := .int (iI 100)) (iI_in (n := 6) ⟨by decide, by decide⟩ (by decide)) rfl dJ1_indexOfChar_4cfef_16 ?_
  refine lv_iload F.1 F.2.1 dJ1_indexOfChar_4cfef_17 (lv_at hl 1 rfl) ?_
  refine gv_icmp_ne (tgt := 25) F ⟨by decide, by decide⟩ hw dJ1_indexOfChar_4cfef_19 (by decide) (fun c3 => ?_) (fun c3 => ?_)
  rotate_left
  · refine lv_iload F.1 F.2.1 dJ1_indexOfChar_4cfef_22 (lv_at hl 0 rfl) ?_
    exact ret 1 H locs 24 ls (by have hx2 : x = 100 := (by split at ew <;> omega); subst hx2; rfl) rfl hS dJ1_indexOfChar_4cfef_24
  refine gv_iinc (lv' := [(5, .int (iI 2)), (4, .int (iI w)), (0, .ref vS), (1, .int (iI x)), (2, .int (iI 0)), (3, .int (iI 6))]) F dJ1_indexOfChar_4cfef_25 hl (k := 0) rfl (x := 2) rfl (by decide) rfl (fun ls hl => ?_)
  refine lv_goto (tgt := 7) F.1 F.2.1 dJ1_indexOfChar_4cfef_28 (by decide) ?_
  refine lv_iload F.1 F.2.1 dJ1_indexOfChar_4cfef_7 (lv_at hl 0 rfl) ?_
  refine lv_iload_n F.1 F.2.1 dJ1_indexOfChar_4cfef_9 rfl (lv_at hl 5 rfl) ?_
  refine gv_icmp_ge (tgt := 31) F ⟨by decide, by decide⟩ ⟨by decide, by decide⟩ dJ1_indexOfChar_4cfef_10 (by decide) (fun c1 => absurd c1 (by decide)) (fun _ => ?_)
  refine lv_aload_n F.1 F.2.1 dJ1_indexOfChar_4cfef_13 rfl (lv_at hl 2 rfl) ?_
  refine lv_iload F.1 F.2.1 dJ1_indexOfChar_4cfef_14 (lv_at hl 0 rfl) ?_
  refine va_tb F.1 F.2.1 (hG.2.1.1 0 (by decide)).2.2.2 hS (i := iI 2) (v := .int (iI 99)) (iI_in (n := 6) ⟨by decide, by decide⟩ (by decide)) rfl dJ1_indexOfChar_4cfef_16 ?_
  refine lv_iload F.1 F.2.1 dJ1_indexOfChar_4cfef_17 (lv_at hl 1 rfl) ?_
  refine gv_icmp_ne (tgt := 25) F ⟨by decide, by decide⟩ hw dJ1_indexOfChar_4cfef_19 (by decide) (fun c4 => ?_) (fun c4 => ?_)
  rotate_left
  · refine lv_iload F.1 F.2.1 dJ1_indexOfChar_4cfef_22 (lv_at hl 0 rfl) ?_
    exact ret 2 H locs 24 ls (by have hx2 : x = 99 := (by split at ew <;> omega); subst hx2; rfl) rfl hS dJ1_indexOfChar_4cfef_24
  refine gv_iinc (lv' := [(5, .int (iI 3)), (4, .int (iI w)), (0, .ref vS), (1, .int (iI x)), (2, .int (iI 0)), (3, .int (iI 6))]) F dJ1_indexOfChar_4cfef_25 hl (k := 0) rfl (x := 3) rfl (by decide) rfl (fun ls hl => ?_)
  refine lv_goto (tgt := 7) F.1 F.2.1 dJ1_indexOfChar_4cfef_28 (by decide) ?_
  refine lv_iload F.1 F.2.1 dJ1_indexOfChar_4cfef_7 (lv_at hl 0 rfl) ?_
  refine lv_iload_n F.1 F.2.1 dJ1_indexOfChar_4cfef_9 rfl (lv_at hl 5 rfl) ?_
  refine gv_icmp_ge (tgt := 31) F ⟨by decide, by decide⟩ ⟨by decide, by decide⟩ dJ1_indexOfChar_4cfef_10 (by decide) (fun c1 => absurd c1 (by decide)) (fun _ => ?_)
  refine lv_aload_n F.1 F.2.1 dJ1_indexOfChar_4cfef_13 rfl (lv_at hl 2 rfl) ?_
  refine lv_iload F.1 F.2.1 dJ1_indexOfChar_4cfef_14 (lv_at hl 0 rfl) ?_
  refine va_tb F.1 F.2.1 (hG.2.1.1 0 (by decide)).2.2.2 hS (i := iI 3) (v := .int (iI 109)) (iI_in (n := 6) ⟨by decide, by decide⟩ (by decide)) rfl dJ1_indexOfChar_4cfef_16 ?_
  refine lv_iload F.1 F.2.1 dJ1_indexOfChar_4cfef_17 (lv_at hl 1 rfl) ?_
  refine gv_icmp_ne (tgt := 25) F ⟨by decide, by decide⟩ hw dJ1_indexOfChar_4cfef_19 (by decide) (fun c5 => ?_) (fun c5 => ?_)
  rotate_left
  · refine lv_iload F.1 F.2.1 dJ1_indexOfChar_4cfef_22 (lv_at hl 0 rfl) ?_
    exact ret 3 H locs 24 ls (by have hx2 : x = 109 := (by split at ew <;> omega); subst hx2; rfl) rfl hS dJ1_indexOfChar_4cfef_24
  refine gv_iinc (lv' := [(5, .int (iI 4)), (4, .int (iI w)), (0, .ref vS), (1, .int (iI x)), (2, .int (iI 0)), (3, .int (iI 6))]) F dJ1_indexOfChar_4cfef_25 hl (k := 0) rfl (x := 4) rfl (by decide) rfl (fun ls hl => ?_)
  refine lv_goto (tgt := 7) F.1 F.2.1 dJ1_indexOfChar_4cfef_28 (by decide) ?_
  refine lv_iload F.1 F.2.1 dJ1_indexOfChar_4cfef_7 (lv_at hl 0 rfl) ?_
  refine lv_iload_n F.1 F.2.1 dJ1_indexOfChar_4cfef_9 rfl (lv_at hl 5 rfl) ?_
  refine gv_icmp_ge (tgt := 31) F ⟨by decide, by decide⟩ ⟨by decide, by decide⟩ dJ1_indexOfChar_4cfef_10 (by decide) (fun c1 => absurd c1 (by decide)) (fun _ => ?_)
  refine lv_aload_n F.1 F.2.1 dJ1_indexOfChar_4cfef_13 rfl (lv_at hl 2 rfl) ?_
  refine lv_iload F.1 F.2.1 dJ1_indexOfChar_4cfef_14 (lv_at hl 0 rfl) ?_
  refine va_tb F.1 F.2.1 (hG.2.1.1 0 (by decide)).2.2.2 hS (i := iI 4) (v := .int (iI 110)) (iI_in (n := 6) ⟨by decide, by decide⟩ (by decide)) rfl dJ1_indexOfChar_4cfef_16 ?_
  refine lv_iload F.1 F.2.1 dJ1_indexOfChar_4cfef_17 (lv_at hl 1 rfl) ?_
  refine gv_icmp_ne (tgt := 25) F ⟨by decide, by decide⟩ hw dJ1_indexOfChar_4cfef_19 (by decide) (fun c6 => ?_) (fun c6 => ?_)
  rotate_left
  · refine lv_iload F.1 F.2.1 dJ1_indexOfChar_4cfef_22 (lv_at hl 0 rfl) ?_
    exact ret 4 H locs 24 ls (by have hx2 : x = 110 := (by split at ew <;> omega); subst hx2; rfl) rfl hS dJ1_indexOfChar_4cfef_24
  refine gv_iinc (lv' := [(5, .int (iI 5)), (4, .int (iI w)), (0, .ref vS), (1, .int (iI x)), (2, .int (iI 0)), (3, .int (iI 6))]) F dJ1_indexOfChar_4cfef_25 hl (k := 0) rfl (x := 5) rfl (by decide) rfl (fun ls hl => ?_)
  refine lv_goto (tgt := 7) F.1 F.2.1 dJ1_indexOfChar_4cfef_28 (by decide) ?_
  refine lv_iload F.1 F.2.1 dJ1_indexOfChar_4cfef_7 (lv_at hl 0 rfl) ?_
  refine lv_iload_n F.1 F.2.1 dJ1_indexOfChar_4cfef_9 rfl (lv_at hl 5 rfl) ?_
  refine gv_icmp_ge (tgt := 31) F ⟨by decide, by decide⟩ ⟨by decide, by decide⟩ dJ1_indexOfChar_4cfef_10 (by decide) (fun c1 => absurd c1 (by decide)) (fun _ => ?_)
  refine lv_aload_n F.1 F.2.1 dJ1_indexOfChar_4cfef_13 rfl (lv_at hl 2 rfl) ?_
  refine lv_iload F.1 F.2.1 dJ1_indexOfChar_4cfef_14 (lv_at hl 0 rfl) ?_
  refine va_tb F.1 F.2.1 (hG.2.1.1 0 (by decide)).2.2.2 hS (i := iI 5) (v := .int (iI 103)) (iI_in (n := 6) ⟨by decide, by decide⟩ (by decide)) rfl dJ1_indexOfChar_4cfef_16 ?_
  refine lv_iload F.1 F.2.1 dJ1_indexOfChar_4cfef_17 (lv_at hl 1 rfl) ?_
  refine gv_icmp_ne (tgt := 25) F ⟨by decide, by decide⟩ hw dJ1_indexOfChar_4cfef_19 (by decide) (fun c7 => ?_) (fun c7 => ?_)
  rotate_left
  · refine lv_iload F.1 F.2.1 dJ1_indexOfChar_4cfef_22 (lv_at hl 0 rfl) ?_
    exact ret 5 H locs 24 ls (by have hx2 : x = 103 := (by split at ew <;> omega); subst hx2; rfl) rfl hS dJ1_indexOfChar_4cfef_24
  refine gv_iinc (lv' := [(5, .int (iI 6)), (4, .int (iI w)), (0, .ref vS), (1, .int (iI x)), (2, .int (iI 0)), (3, .int (iI 6))]) F dJ1_indexOfChar_4cfef_25 hl (k := 0) rfl (x := 6) rfl (by decide) rfl (fun ls hl => ?_)
  refine lv_goto (tgt := 7) F.1 F.2.1 dJ1_indexOfChar_4cfef_28 (by decide) ?_
  refine lv_iload F.1 F.2.1 dJ1_indexOfChar_4cfef_7 (lv_at hl 0 rfl) ?_
  refine lv_iload_n F.1 F.2.1 dJ1_indexOfChar_4cfef_9 rfl (lv_at hl 5 rfl) ?_
  refine gv_icmp_ge (tgt := 31) F ⟨by decide, by decide⟩ ⟨by decide, by decide⟩ dJ1_indexOfChar_4cfef_10 (by decide) (fun _ => ?_) (fun c1 => absurd (by decide) c1)
  refine gv_iconst F dJ1_indexOfChar_4cfef_31 ?_
  exact ret (-1) H locs 32 ls (by unfold kOf; split at ew <;> (repeat (rw [if_neg (by omega)]))) rfl hS dJ1_indexOfChar_4cfef_32
abbrev rJ1_indexOf_4cfef : Room := { frames := 1, cells := 0, slots := 0, locals := 25 }
set_option maxHeartbeats 4000000 in
set_option maxRecDepth 20000 in
theorem c_J1_indexOf_4cfef (l : Launch) (D : va_G) (cy : ClassId) (kS vS : Nat) (x : Int) (hx : 0 ≤ x ∧ x ≤ 255) : MetRs l yJ1_indexOf_4cfef (wT yJ1_indexOf_4cfef cJ1_indexOf_4cfef 4 (some .int)) rJ1_indexOf_4cfef D cy kS vS [.ref vS, .int (iI x), .int (iI 0), .int (iI 6)] [] (fun u => u = kOf x) := by
  refine gI_Rs (by decide) (Nat.le_of_ble_eq_true rfl) ?_
  intro p e s m args below meth c A Qg F hK hA hG ret H locs ls hl hP hS
  have F : CallFix p m c cJ1_indexOf_4cfef 4 s args gT RJ1 := F
  have hl : lv_has ls 4 [(0, .ref vS), (1, .int (iI x)), (2, .int (iI 0)), (3, .int (iI 6))] := hl
  refine lv_iload_n F.1 F.2.1 dJ1_indexOf_4cfef_0 rfl (lv_at hl 1 rfl) ?_
  refine gc_SR (As := [.int (iI x)]) F hK hA hP hS gPnil (c_J1_canEncode_9a6ad l D cy x hx) (cwS 1 F.2.2.2.2 (gG_S k283 k284 k69 k285) rfl rfl rfl ⟨rfl, hd_J1_canEncode_9a6ad⟩ ⟨Nat.le_of_ble_eq_true rfl, Nat.le_of_ble_eq_true rfl⟩) dJ1_indexOf_4cfef_1 rfl rfl hl.1 (Nat.le_of_ble_eq_true rfl) ⟨Nat.le_of_ble_eq_true rfl, Nat.le_of_ble_eq_true rfl⟩ (fun u H locs h hP hS => ?_)
  subst h
  refine gv_if_ne (tgt := 9) F ⟨by decide, by decide⟩ dJ1_indexOf_4cfef_4 (by decide) (fun _ => ?_) (fun c1 => absurd c1 (by decide))
  refine lv_iload_n F.1 F.2.1 dJ1_indexOf_4cfef_9 rfl (lv_at hl 2 rfl) ?_
  refine gv_iconst F dJ1_indexOf_4cfef_10 ?_
  refine va_mmax F.1 F.2.1 (F.2.2.1.trans hl.1.symm) F.2.2.2.1 (F.2.2.2.2 _ k286) (F.2.2.2.2 _ k287) (F.2.2.2.2 _ k64) (F.2.2.2.2 _ k288) (Nat.le_of_ble_eq_true rfl) (Nat.le_of_ble_eq_true rfl) (Nat.le_of_ble_eq_true rfl) (Nat.le_of_ble_eq_true rfl) dJ1_indexOf_4cfef_11 ?_
  refine lv_istore_n (lv' := [(2, .int (iI 0)), (0, .ref vS), (1, .int (iI x)), (3, .int (iI 6))]) F.1 F.2.1 dJ1_indexOf_4cfef_14 rfl hl (by decide) rfl (fun ls hl => ?_)
  refine lv_iload_n F.1 F.2.1 dJ1_indexOf_4cfef_15 rfl (lv_at hl 3 rfl) ?_
  refine lv_aload_n F.1 F.2.1 dJ1_indexOf_4cfef_16 rfl (lv_at hl 1 rfl) ?_
  refine va_tlen F.1 F.2.1 (hG.2.1.1 0 (by decide)).2.2.2 hS (v := iI 6) rfl dJ1_indexOf_4cfef_17 ?_
  refine gv_mmin F k289 ⟨by decide, by decide⟩ ⟨by decide, by decide⟩ hl.1 (Nat.le_of_ble_eq_true rfl) (Nat.le_of_ble_eq_true rfl) ⟨Nat.le_of_ble_eq_true rfl, Nat.le_of_ble_eq_true rfl⟩ dJ1_indexOf_4cfef_18 k103 k64 k104 ?_
  refine lv_istore_n (lv' := [(3, .int (iI 6)), (2, .int (iI 0)), (0, .ref vS), (1, .int (iI x))]) F.1 F.2.1 dJ1_indexOf_4cfef_21 rfl hl (by decide) rfl (fun ls hl => ?_)
  refine lv_iload_n F.1 F.2.1 dJ1_indexOf_4cfef_22 rfl (lv_at hl 1 rfl) ?_
  refine lv_iload_n F.1 F.2.1 dJ1_indexOf_4cfef_23 rfl (lv_at hl 0 rfl) ?_
  refine gv_icmp_lt (tgt := 29) F ⟨by decide, by decide⟩ ⟨by decide, by decide⟩ dJ1_indexOf_4cfef_24 (by decide) (fun _ => ?_) (fun c1 => absurd (by decide) c1)
  refine lv_aload_n F.1 F.2.1 dJ1_indexOf_4cfef_29 rfl (lv_at hl 2 rfl) ?_
  refine lv_iload_n F.1 F.2.1 dJ1_indexOf_4cfef_30 rfl (lv_at hl 3 rfl) ?_
  refine lv_iload_n F.1 F.2.1 dJ1_indexOf_4cfef_31 rfl (lv_at hl 1 rfl) ?_
  refine lv_iload_n F.1 F.2.1 dJ1_indexOf_4cfef_32 rfl (lv_at hl 0 rfl) ?_
  refine gcs_SR (As := [.ref vS, .int (iI x), .int (iI 0), .int (iI 6)]) F hK hA hP hG hS gPnil (c_J1_indexOfChar_4cfef l D cy kS vS x hx) (cwS 4 F.2.2.2.2 (gG_S k290 k291 k69 k292) rfl rfl rfl ⟨rfl, hd_J1_indexOfChar_4cfef⟩ ⟨Nat.le_of_ble_eq_true rfl, Nat.le_of_ble_eq_true rfl⟩) dJ1_indexOf_4cfef_33 rfl rfl hl.1 (Nat.le_of_ble_eq_true rfl) ⟨Nat.le_of_ble_eq_true rfl, Nat.le_of_ble_eq_true rfl⟩ (fun u H locs h hP hS => ?_)
  exact ret u H locs 36 ls h rfl hS dJ1_indexOf_4cfef_36
abbrev rJ0_indexOf_7cf53 : Room := { frames := 2, cells := 0, slots := 0, locals := 48 }
set_option maxHeartbeats 4000000 in
set_option maxRecDepth 20000 in
theorem c_J0_indexOf_7cf53 (l : Launch) (D : va_G) (cy : ClassId) (kS vS : Nat) (x : Int) (hx : 0 ≤ x ∧ x ≤ 255) : MetRs l yJ0_indexOf_7cf53 (wT yJ0_indexOf_7cf53 cJ0_indexOf_7cf53 3 (some .int)) rJ0_indexOf_7cf53 D cy kS vS [.ref kS, .int (iI x), .int (iI 0)] [] (fun u => u = kOf x) := by
  refine gI_Rs (by decide) (Nat.le_of_ble_eq_true rfl) ?_
  intro p e s m args below meth c A Qg F hK hA hG ret H locs ls hl hP hS
  have F : CallFix p m c cJ0_indexOf_7cf53 3 s args gT RJ0 := F
  have hl : lv_has ls 3 [(0, .ref kS), (1, .int (iI x)), (2, .int (iI 0))] := hl
  refine lv_aload_n F.1 F.2.1 dJ0_indexOf_7cf53_0 rfl (lv_at hl 0 rfl) ?_
  refine gcs_KR (As := []) F hK hA hP hG hS gPnil (c_J0_isLatin1_aae02 l D cy kS vS) (cwV 0 F.2.2.2.2 (gG_V k266 k267 k268 k68 k269) rfl rfl rfl ⟨rfl, hd_J0_isLatin1_aae02⟩ ⟨Nat.le_of_ble_eq_true rfl, Nat.le_of_ble_eq_true rfl⟩) dJ0_indexOf_7cf53_1 rfl rfl hl.1 (Nat.le_of_ble_eq_true rfl) ⟨Nat.le_of_ble_eq_true rfl, Nat.le_of_ble_eq_true rfl⟩ (fun u H locs h hP hS => ?_)
  subst h
  refine gv_if_eq (tgt := 23) F ⟨by decide, by decide⟩ dJ0_indexOf_7cf53_4 (by decide) (fun c1 => absurd c1 (by decide)) (fun _ => ?_)
  refine lv_aload_n F.1 F.2.1 dJ0_indexOf_7cf53_7 rfl (lv_at hl 0 rfl) ?_
  refine vk_getf F.1 F.2.1 (hG.2.1.1 0 (by decide)).2.2.1 hS F.2.2.2.1 (F.2.2.2.2 _ k1113) (fun _ h => h) dJ0_indexOf_7cf53_8 ?_
  refine lv_iload_n F.1 F.2.1 dJ0_indexOf_7cf53_11 rfl (lv_at hl 1 rfl) ?_
  refine lv_iload_n F.1 F.2.1 dJ0_indexOf_7cf53_12 rfl (lv_at hl 2 rfl) ?_
  refine lv_aload_n F.1 F.2.1 dJ0_indexOf_7cf53_13 rfl (lv_at hl 0 rfl) ?_
  refine gcs_KR (As := []) F hK hA hP hG hS gPnil (c_J0_length_8abf5 l D cy kS vS) (cwV 0 F.2.2.2.2 (gG_V k272 k273 k274 k68 k275) rfl rfl rfl ⟨rfl, hd_J0_length_8abf5⟩ ⟨Nat.le_of_ble_eq_true rfl, Nat.le_of_ble_eq_true rfl⟩) dJ0_indexOf_7cf53_14 rfl rfl hl.1 (Nat.le_of_ble_eq_true rfl) ⟨Nat.le_of_ble_eq_true rfl, Nat.le_of_ble_eq_true rfl⟩ (fun u H locs h hP hS => ?_)
  subst h
  refine gcs_SR (As := [.ref vS, .int (iI x), .int (iI 0), .int (iI 6)]) F hK hA hP hG hS gPnil (c_J1_indexOf_4cfef l D cy kS vS x hx) (va_cwS 4 F.2.2.2.2 (gG_T k280 k281 k69 k282) rfl rfl rfl hd_J1_indexOf_4cfef ⟨Nat.le_of_ble_eq_true rfl, Nat.le_of_ble_eq_true rfl⟩) dJ0_indexOf_7cf53_17 rfl rfl hl.1 (Nat.le_of_ble_eq_true rfl) ⟨Nat.le_of_ble_eq_true rfl, Nat.le_of_ble_eq_true rfl⟩ (fun u H locs h hP hS => ?_)
  refine lv_goto (tgt := 36) F.1 F.2.1 dJ0_indexOf_7cf53_20 (by decide) ?_
  exact ret u H locs 36 ls h rfl hS dJ0_indexOf_7cf53_36
abbrev rJ0_indexOf_0f7a4 : Room := { frames := 3, cells := 0, slots := 0, locals := 70 }
set_option maxHeartbeats 4000000 in
set_option maxRecDepth 20000 in
theorem c_J0_indexOf_0f7a4 (l : Launch) (D : va_G) (cy : ClassId) (kS vS : Nat) (x : Int) (hx : 0 ≤ x ∧ x ≤ 255) : MetRs l yJ0_indexOf_0f7a4 (wT yJ0_indexOf_0f7a4 cJ0_indexOf_0f7a4 2 (some .int)) rJ0_indexOf_0f7a4 D cy kS vS [.ref kS, .int (iI x)] [] (fun u => u = kOf x) := by
  refine gI_Rs (by decide) (Nat.le_of_ble_eq_true rfl) ?_
  intro p e s m args below meth c A Qg F hK hA hG ret H locs ls hl hP hS
  have F : CallFix p m c cJ0_indexOf_0f7a4 2 s args gT RJ0 := F
  have hl : lv_has ls 2 [(0, .ref kS), (1, .int (iI x))] := hl
  refine lv_aload_n F.1 F.2.1 dJ0_indexOf_0f7a4_0 rfl (lv_at hl 0 rfl) ?_
  refine lv_iload_n F.1 F.2.1 dJ0_indexOf_0f7a4_1 rfl (lv_at hl 1 rfl) ?_
  refine gv_iconst F dJ0_indexOf_0f7a4_2 ?_
  refine gcs_KR (As := [.int (iI x), .int (iI 0)]) F hK hA hP hG hS gPnil (c_J0_indexOf_7cf53 l D cy kS vS x hx) (cwV 2 F.2.2.2.2 (gG_V k262 k263 k264 k68 k265) rfl rfl rfl ⟨rfl, hd_J0_indexOf_7cf53⟩ ⟨Nat.le_of_ble_eq_true rfl, Nat.le_of_ble_eq_true rfl⟩) dJ0_indexOf_0f7a4_3 rfl rfl hl.1 (Nat.le_of_ble_eq_true rfl) ⟨Nat.le_of_ble_eq_true rfl, Nat.le_of_ble_eq_true rfl⟩ (fun u H locs h hP hS => ?_)
  exact ret u H locs 6 ls h rfl hS dJ0_indexOf_0f7a4_6
theorem hd_X0_kindOf : yX0_kindOf.cls = RX0 ∧ yX0_kindOf.cls ≠ "java/lang/invoke/MethodHandle" ∧ yX0_kindOf.cls ≠ "java/lang/invoke/VarHandle" ∧ (parseMethodDescriptor yX0_kindOf.desc).map (fun d => d.parameters.length) = some 1 := by decide +kernel
abbrev rX0_kindOf : Room := { frames := 4, cells := 0, slots := 0, locals := 91 }
set_option maxHeartbeats 4000000 in
set_option maxRecDepth 20000 in
theorem c_X0_kindOf (l : Launch) (D : va_G) (cy : ClassId) (kS vS : Nat) (x1 : Int) (Q : Int → Prop) (h : wX0_kindOf x1 Q) : MetRs l yX0_kindOf (wT yX0_kindOf cX0_kindOf 1 (some .int)) rX0_kindOf D cy kS vS [.int (iI x1)] [] Q := by
  refine gI_Rs (by decide) (Nat.le_of_ble_eq_true rfl) ?_
  intro p e s m args below meth c A Qg F hK hA hG ret H locs ls hl hP hS
  have F : CallFix p m c cX0_kindOf 1 s args gT RX0 := F
  have hl : lv_has ls 1 [(0, .int (iI x1))] := hl
  refine va_ldcS F.1 F.2.1 F.2.2.2.1 hG.1 dX0_kindOf_0 ?_
  refine lv_iload_n F.1 F.2.1 dX0_kindOf_2 rfl (lv_at hl 0 rfl) ?_
  refine lv_i2c F.1 F.2.1 dX0_kindOf_3 (iI_i2c h.1) ?_
  refine gcs_KR (As := [.int (iI x1)]) F hK hA hP hG hS gPnil (c_J0_indexOf_0f7a4 l D cy kS vS x1 h.1) (cwV 1 F.2.2.2.2 (gG_V k258 k259 k260 k68 k261) rfl rfl rfl ⟨rfl, hd_J0_indexOf_0f7a4⟩ ⟨Nat.le_of_ble_eq_true rfl, Nat.le_of_ble_eq_true rfl⟩) dX0_kindOf_4 rfl rfl hl.1 (Nat.le_of_ble_eq_true rfl) ⟨Nat.le_of_ble_eq_true rfl, Nat.le_of_ble_eq_true rfl⟩ (fun u H locs hu hP hS => ?_)
  subst hu
  exact ret _ H locs 7 ls h.2 rfl hS dX0_kindOf_7
