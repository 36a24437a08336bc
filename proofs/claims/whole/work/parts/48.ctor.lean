/-! constructors -/
def MetN {S : Type} (l : Launch) (y : MethodName) (ws : List Cond) (rm : Room) (D : va_G) (cy : ClassId) (av : List Value) (B : va_W) (nc ns : Nat) (B' : S → va_W) (Q : S → Prop) : Prop :=
  ∀ sz : Nat, Met l y ws rm (va_Pc av (gPre D cy sz B)) (va_Qv Q (fun u t => gPo D (va_A B sz) (B' u) t) (va_A B sz)) nc ns (va_A B sz)
theorem va_D_iff {A : Nat → Prop} {ws : va_W} : va_D A ws ↔ List.Pairwise (fun p q : Nat × va_E => p.1 ≠ q.1) ws ∧ ∀ q ∈ ws, A q.1 := by
  constructor
  · intro h
    refine ⟨List.pairwise_iff_getElem.mpr (fun i j hi hj hij he => ?_), fun q hq => ?_⟩
    · have := h.1 i j _ _ (List.getElem?_eq_getElem hi) (List.getElem?_eq_getElem hj) he
      omega
    · obtain ⟨i, hi⟩ := List.getElem?_of_mem hq
      exact h.2 i q hi
  · rintro ⟨h1, h2⟩
    refine ⟨fun i j p q hi hj he => ?_, fun k q hk => h2 q (List.mem_of_getElem? hk)⟩
    obtain ⟨hi', hi⟩ := List.getElem?_eq_some_iff.mp hi
    obtain ⟨hj', hj⟩ := List.getElem?_eq_some_iff.mp hj
    subst hi hj
    rcases Nat.lt_trichotomy i j with h | h | h
    · exact absurd he (List.pairwise_iff_getElem.mp h1 i j hi' hj' h)
    · exact h
    · exact absurd he.symm (List.pairwise_iff_getElem.mp h1 j i hj' hi' h)
theorem gD_perm {A : Nat → Prop} {ws ws' : va_W} (h : ws.Perm ws') (hD : va_D A ws) : va_D A ws' := by
  obtain ⟨h1, h2⟩ := va_D_iff.mp hD
  exact va_D_iff.mpr ⟨(List.Perm.pairwise_iff (fun h => Ne.symm h) h).mp h1, fun q hq => h2 q (h.mem_iff.mpr hq)⟩
theorem gP_perm {D : va_G} {cl : List vw_C} {ws ws' : va_W} {H : Heap} (h : ws.Perm ws') (hP : va_P D cl ws H) : va_P D cl ws' H := fun k q hk => by
  obtain ⟨i, hi⟩ := List.getElem?_of_mem (h.mem_iff.mpr (List.mem_of_getElem? hk))
  exact hP i q hi
/-- the newest cell is made: what comes back stands beside the rest -/
theorem gJoinNew {A0 : Nat → Prop} {D : va_G} {cl : List vw_C} {X B w1 : va_W} {H H1 : Heap} (hP : va_P D cl (X ++ B) H) (hD : va_D A0 (X ++ B)) (hk : ∀ q : Nat, q < H.size → ¬ va_A B H.size q → H1[q]? = H[q]?) (hF : ∀ q, va_A B H.size q → A0 q) (hP1 : va_P D cl w1 H1) (hD1 : va_D (va_A B H.size) w1) : va_P D cl (X ++ w1) H1 ∧ va_D A0 (X ++ w1) := by
  have apart : ∀ (k : Nat) (q : Nat × va_E), X[k]? = some q → ¬ va_A B H.size q.1 := fun k q hq h => by
    rcases h with ⟨i, e, h⟩ | h
    · exact gDisj hD k i q (q.1, e) hq h rfl
    · exact absurd ((gP_left hP) k q hq).lt (Nat.not_lt.mpr h)
  refine ⟨va_P.app ((gP_left hP).kept (fun k q hq => hk q.1 ((gP_left hP) k q hq).lt (apart k q hq))) hP1, va_D.app (gD_left hD) (hD1.weaken (fun _ q _ h => hF q.1 h)) (fun i j p q hp hq he => ?_)⟩
  exact apart i p hp (by rw [he]; exact hD1.2 j q hq)
section GV4
variable {p : Program} {l : Launch} {e : Env} {R : Room} {s : State} {m : MethodId} {args : Array Value} {below : List Frame} {meth : Method} {c : Code} {H : Heap} {locs : List Loc} {cells slots : Nat} {Q : State → Prop}
variable {cc : ByteArray} {nL : Nat} {own : String} {pc : Nat} {ls : Array Slot} {rest : List Value} {D : va_G} {cy : ClassId} {A : Nat → Prop} {H0 : Heap} {ws : va_W}
theorem gv_newa (F : CallFix p m c cc nL s args gT own) (hw : Cond.arrayClass .int ∈ gT) (hK : va_K D vwCl [(cy, .int)] s) (hP : va_P D vwCl ws H) (hD : va_D A ws) (hS : va_S A H0 H locs) (hA : ∀ q, H0.size ≤ q → A q) (n : Nat) {N : Int} (hN : (n : Int) = N) (hn : n ≤ 1000) (hcells : cells + 1 ≤ R.cells) (hslots : slots + n ≤ R.slots) (hdg : decode cc pc = .ok (.newarray .int, 2))
    (kk : ∀ (q : Nat) (H1 : Heap), va_P D vwCl (ws ++ [(q, gA cy n (fun _ => 0))]) H1 → va_D A (ws ++ [(q, gA cy n (fun _ => 0))]) → va_S A H0 H1 locs → W p l e R s m args below meth c H1 locs (cells + 1) (slots + n) Q (F0 m (pc + 2) ls (.ref q :: rest))) : W p l e R s m args below meth c H locs cells slots Q (F0 m pc ls (.int (iI N) :: rest)) := by
  refine va_newa (atype := .int) F.1 F.2.1 (F.2.2.2.2 _ hw) (ty := .int) rfl hK hP hD hS hA (N' := n) (a0 := (n, .inl (fun _ : Nat => iI 0))) (fun cA => rfl) ?_ ?_ ?_ hcells hslots hdg (fun q cA H1 hK1 hP1 hD1 hS1 => ?_)
  · rw [show (0 : Int32) = iI 0 from rfl, iI_lt ⟨by omega, by omega⟩ gR_0]; omega
  · rw [iI_clamp (by omega) (by omega)]; omega
  · show n * 4 ≤ 536870912; omega
  · have h1 : s.vm.findClass ("[" ++ FieldType.int.toString) = some cA := (hK1.2 1 (cA, .int) rfl).2
    have h2 : s.vm.findClass ("[" ++ FieldType.int.toString) = some cy := (hK1.2 0 (cy, .int) rfl).2
    have h3 : cA = cy := Option.some.inj (h1.symm.trans h2)
    subst h3
    exact kk q H1 hP1 hD1 hS1
end GV4
set_option maxHeartbeats 1000000 in
theorem gI_N {S : Type} {l : Launch} {y : MethodName} {D : va_G} {cy : ClassId} {av : List Value} {B : va_W} {nc ns : Nat} {B' : S → va_W} {cc : ByteArray} {maxL : Nat} {rm : Room} {Q : S → Prop} (hy : plainName y.cls = true) (hlen : (lg_sl av).length ≤ maxL) (hyn : y.name = "<init>")
    (body : ∀ (p : Program) (e : Env) (s : State) (m : MethodId) (args : Array Value) (below : List Frame) (meth : Method) (c : Code) (A : Nat → Prop) (Qg : State → Prop), CallFix p m c cc maxL s args gT y.cls → meth.name = "<init>" → va_K D vwCl [(cy, .int)] s → (∀ q : Nat, s.heap.size ≤ q → A q) →
      (∀ (u : S) (H : Heap) (locs : List Loc) (pc : Nat) (ls : Array Slot), Q u → va_P D vwCl (B' u) H → va_D A (B' u) → va_S A s.heap H locs → decode cc pc = .ok (.return_, 1) → W p l e rm s m args below meth c H locs nc ns Qg (F0 m pc ls [])) →
      ∀ (H : Heap) (locs : List Loc) (ls : Array Slot), lv_has ls maxL (lv_args 0 av) → va_P D vwCl B H → va_D A B → va_S A s.heap H locs → W p l e rm s m args below meth c H locs 0 0 Qg (F0 m 0 ls [])) : MetN l y (wT y cc maxL none) rm D cy av B nc ns B' Q := by
  intro sz
  refine Met.ofW (cc := cc) (maxL := maxL) (ret := none) hy rfl ?_
  intro p e s m args below meth c s₁ X hml hv
  obtain ⟨rfl, hsz, hP, hK, hD0⟩ := hv
  subst hsz
  have F : CallFix p m c cc maxL s av.toArray gT y.cls := ⟨X.exec, X.bytes, hml, findClass_of_methodNamed X.named, fun w hw => atoms_spec (ws := wT y cc maxL none) X.pre w (List.mem_cons_of_mem _ hw)⟩
  have hr := X.returns
  have hlocks := X.notSynchronized
  have hin : meth.name = "<init>" := ((name_of_methodNamed X.named X.method).1).trans hyn
  rw [lg_entry_eq]
  refine body p e s m av.toArray below meth c (va_A B s.heap.size) _ F hin hK (fun q h => Or.inr h) ?_ s.heap [] _ (lv_entry av hlen) hP hD0.self va_S.rf
  intro u H locs pc ls hu hP1 hD1 hS hdg
  exact W.vret F.1 F.2.1 hr (fun t ht hW => ⟨⟨u, rfl, hu, by refine ⟨?_, hD1⟩; rw [ht]; exact hP1⟩, hS.F ht⟩) hS.2.2 hdg
section GV5
variable {p : Program} {l : Launch} {e : Env} {R : Room} {s : State} {m : MethodId} {args : Array Value} {below : List Frame} {meth : Method} {c : Code} {H : Heap} {locs : List Loc} {cells slots : Nat} {Q : State → Prop}
variable {cc : ByteArray} {nL : Nat} {own : String} {pc : Nat} {ls : Array Slot} {rest : List Value} {D : va_G} {cy : ClassId} {A : Nat → Prop} {H0 : Heap}
/-- a constructor's call on the newest cell -/
theorem gc_N (F : CallFix p m c cc nL s args gT own) {S : Type} {y : MethodName} {bytes : ByteArray} {maxL idx nc ns : Nat} {wy : List Cond} {rm : Room} {X B : va_W} {b : Nat} {st0 : List Value} {B1 : S → va_W} {Qc : S → Prop} (hK : va_K D vwCl [(cy, .int)] s) (hA : ∀ q : Nat, H0.size ≤ q → A q) (hP : va_P D vwCl (X ++ B) H) (hD : va_D A (X ++ B)) (hS : va_S A H0 H locs) (hM : MetN l y wy rm D cy [.ref b] B nc ns B1 Qc)
    (cw : CallB R s args own idx y bytes maxL none wy rm nc ns 0 ∧ y.name = "<init>" ∧ (Cond.instanceMethod y).before args s = true) (hdg : decode cc pc = .ok (.invokespecial idx, 3)) (hst : st0 = .ref b :: rest) (hl : ls.size = nL) (hroom : (rest.map fun v => v.category).sum ≤ 8) (hc : cells + nc ≤ R.cells ∧ slots + ns ≤ R.slots)
    (k : ∀ (u : S) (H : Heap) (locs : List Loc), Qc u → va_P D vwCl (X ++ B1 u) H → va_D A (X ++ B1 u) → va_S A H0 H locs → W p l e R s m args below meth c H locs (cells + nc) (slots + ns) Q (F0 m (pc + 3) ls rest)) : W p l e R s m args below meth c H locs cells slots Q (F0 m pc ls st0) := by
  have hPB := gP_right hP
  have hDB := gD_right hD
  have hF : ∀ q : Nat, va_A B H.size q → A q := fun q h => by
    rcases h with ⟨k2, x, h⟩ | h
    · exact hDB.2 k2 _ h
    · exact hA q (Nat.le_trans hS.1 h)
  refine va_callv (va_runI (As := []) (rest := rest) F (hM H.size) cw ⟨gPre_blind, fun U hU hW => ⟨rfl, by rw [hU], by rw [hU]; exact hPB, va_K.moved hW.alike hK, hDB.weaken (fun _ _ _ _ => trivial)⟩⟩ rfl rfl hl hst (lv_room hroom) hdg hc) hS (fun q _ h => hF q h) hF (fun u t H1 locs1 ht hvm hp hb2 hz hk hS1 => ?_)
  obtain ⟨hP1, hD1⟩ := hb2
  rw [ht] at hP1
  obtain ⟨hP2, hD2⟩ := gJoinNew hP hD hk hF hP1 hD1
  exact k u H1 locs1 hp hP2 hD2 hS1
end GV5
theorem gN_words {own : String} {y : MethodName} {cc : ByteArray} {n : Nat} {r : Option FieldType} (h5 : Cond.code y cc n r ∈ gT) : GoodIn gT (wT y cc n r) := by
  have key : ∀ w ∈ gT, w ∈ gT ∧ ((w.onTables && w.keeps) = true ∨ ∃ ty, w = .arrayClass ty) := fun w h => ⟨h, good_of_word (gT_good w h)⟩
  intro w hw
  refine key w ?_
  simp only [wT, List.mem_cons] at hw
  rcases hw with rfl | h <;> assumption
theorem hd_X0_init : yX0_init.cls ≠ "java/lang/invoke/MethodHandle" ∧ yX0_init.cls ≠ "java/lang/invoke/VarHandle" ∧ (parseMethodDescriptor yX0_init.desc).map (fun d => d.parameters.length) = some 0 := by decide +kernel
abbrev rX0_init : Room := { frames := 1, cells := 1, slots := 96, locals := 20 }
set_option maxHeartbeats 4000000 in
set_option maxRecDepth 20000 in
theorem c_X0_init (l : Launch) (D : va_G) (cy : ClassId) (h0 : Nat) : MetN (S := Nat → Nat) l yX0_init (wT yX0_init cX0_init 1 none) rX0_init D cy [.ref h0] [(h0, .inr (0, [.null, .int (iI 0)]))] 1 96 (fun ad => wLe cy ad (fun _ => 0) (fun _ => 0)) (fun ad => ad 0 = h0) := by
  refine gI_N (by decide) (Nat.le_of_ble_eq_true rfl) rfl ?_
  intro p e s m args below meth c A Qg F hin hK hA ret H locs ls hl hP hD hS
  have F : CallFix p m c cX0_init 1 s args gT RX0 := F
  have hl : lv_has ls 1 [(0, .ref h0)] := hl
  refine lv_aload_n F.1 F.2.1 dX0_init_0 rfl (lv_at hl 0 rfl) ?_
  refine W.objInit F.1 F.2.1 F.2.2.2.1 (F.2.2.2.2 _ k180) (F.2.2.2.2 _ k80) (F.2.2.2.2 _ k81) rfl (by rw [F.2.2.1]; exact hl.1) rfl dX0_init_1 (Nat.le_of_ble_eq_true rfl) (Nat.le_of_ble_eq_true rfl) ?_
  refine W.eq (g2 := F0 m 4 ls []) rfl ?_
  refine lv_aload_n F.1 F.2.1 dX0_init_4 rfl (lv_at hl 0 rfl) ?_
  refine gv_bipush F ⟨by decide, by decide⟩ dX0_init_5 ?_
  refine gv_newa F k112 hK hP hD hS hA 96 rfl (by decide) (Nat.le_of_ble_eq_true rfl) (Nat.le_of_ble_eq_true rfl) dX0_init_7 (fun q1 H hP hD hS => ?_)
  have hP : va_P D vwCl ((h0, .inr (0, [.null, .int (iI 0)])) :: [(q1, gA cy 96 (fun _ => 0))]) H := hP
  have hD : va_D A ((h0, .inr (0, [.null, .int (iI 0)])) :: [(q1, gA cy 96 (fun _ => 0))]) := hD
  refine W.widen (k := 1) (n := 96) (by omega) (by omega) ?_
  refine va_putF (D := D) (ci := 0) (v := .ref q1) (ty := (.array .int)) (C := RX0) (T := TX0) (N := 2) F.1 F.2.1 F.2.2.2.2 hin0 tyX0 tyX0_ok nmX0 F.2.2.2.1 hK hP hD hS 0 rfl rfl 0 (by decide) (F.2.2.2.2 _ k181) (fun _ h9 => h9) rfl hin rfl (by decide +kernel) rfl rfl (Nat.le_of_ble_eq_true rfl) dX0_init_9 (fun H locs hP hD hS => ?_)
  have hP : va_P D vwCl ((h0, .inr (0, [.ref q1, .int (iI 0)])) :: [(q1, gA cy 96 (fun _ => 0))]) H := hP
  have hD : va_D A ((h0, .inr (0, [.ref q1, .int (iI 0)])) :: [(q1, gA cy 96 (fun _ => 0))]) := hD
  refine lv_aload_n F.1 F.2.1 dX0_init_12 rfl (lv_at hl 0 rfl) ?_
  refine gv_iconst F dX0_init_13 ?_
  refine gv_put (ws' := (h0, .inr (0, [.ref q1, .int (iI 0)])) :: [(q1, gA cy 96 (fun _ => 0))]) F hin0 tyX0 tyX0_ok nmX0 hK hP hD hS 0 rfl rfl 1 (by decide) k182 rfl (ty := .int) (by decide +kernel) rfl rfl (Nat.le_of_ble_eq_true rfl) rfl dX0_init_14 (fun H locs hP hD hS => ?_)
  exact ret (fun k => match k with | 0 => h0 | _ => q1) H locs 17 ls rfl hP hD hS dX0_init_17
theorem hd_X2_init : yX2_init.cls ≠ "java/lang/invoke/MethodHandle" ∧ yX2_init.cls ≠ "java/lang/invoke/VarHandle" ∧ (parseMethodDescriptor yX2_init.desc).map (fun d => d.parameters.length) = some 0 := by decide +kernel
abbrev rX2_init : Room := { frames := 3, cells := 2, slots := 98, locals := 66 }
set_option maxHeartbeats 4000000 in
set_option maxRecDepth 20000 in
theorem c_X2_init (l : Launch) (D : va_G) (cy : ClassId) (h0 : Nat) (fa0 : AR) (h : wX2_measure (fun _ => 0) (fun _ => 0) (fun z => z = fa0)) : MetN (S := (Nat → Nat) × AR) l yX2_init (wT yX2_init cX2_init 1 none) rX2_init D cy [.ref h0] [(h0, .inr (2, [.null, .null]))] 2 98 (fun u => wRo cy u.1 (fun _ => 0) u.2) (fun u => u.1 0 = h0 ∧ u.2 = fa0) := by
  refine gI_N (by decide) (Nat.le_of_ble_eq_true rfl) rfl ?_
  intro p e s m args below meth c A Qg F hin hK hA ret H locs ls hl hP hD hS
  have F : CallFix p m c cX2_init 1 s args gT RX2 := F
  have hl : lv_has ls 1 [(0, .ref h0)] := hl
  refine lv_aload_n F.1 F.2.1 dX2_init_0 rfl (lv_at hl 0 rfl) ?_
  refine W.objInit F.1 F.2.1 F.2.2.2.1 (F.2.2.2.2 _ k93) (F.2.2.2.2 _ k80) (F.2.2.2.2 _ k81) rfl (by rw [F.2.2.1]; exact hl.1) rfl dX2_init_1 (Nat.le_of_ble_eq_true rfl) (Nat.le_of_ble_eq_true rfl) ?_
  refine W.eq (g2 := F0 m 4 ls []) rfl ?_
  refine lv_aload_n F.1 F.2.1 dX2_init_4 rfl (lv_at hl 0 rfl) ?_
  refine gv_bipush F ⟨by decide, by decide⟩ dX2_init_5 ?_
  refine gv_newa F k112 hK hP hD hS hA 49 rfl (by decide) (Nat.le_of_ble_eq_true rfl) (Nat.le_of_ble_eq_true rfl) dX2_init_7 (fun q1 H hP hD hS => ?_)
  have hP : va_P D vwCl ((h0, .inr (2, [.null, .null])) :: [(q1, gA cy 49 (fun _ => 0))]) H := hP
  have hD : va_D A ((h0, .inr (2, [.null, .null])) :: [(q1, gA cy 49 (fun _ => 0))]) := hD
  refine W.widen (k := 1) (n := 49) (by omega) (by omega) ?_
  refine va_putF (D := D) (ci := 2) (v := .ref q1) (ty := (.array .int)) (C := RX2) (T := TX2) (N := 2) F.1 F.2.1 F.2.2.2.2 hin2 tyX2 tyX2_ok nmX2 F.2.2.2.1 hK hP hD hS 0 rfl rfl 0 (by decide) (F.2.2.2.2 _ k105) (fun _ h9 => h9) rfl hin rfl (by decide +kernel) rfl rfl (Nat.le_of_ble_eq_true rfl) dX2_init_9 (fun H locs hP hD hS => ?_)
  have hP : va_P D vwCl ((h0, .inr (2, [.ref q1, .null])) :: [(q1, gA cy 49 (fun _ => 0))]) H := hP
  have hD : va_D A ((h0, .inr (2, [.ref q1, .null])) :: [(q1, gA cy 49 (fun _ => 0))]) := hD
  refine lv_aload_n F.1 F.2.1 dX2_init_12 rfl (lv_at hl 0 rfl) ?_
  refine gv_bipush F ⟨by decide, by decide⟩ dX2_init_13 ?_
  refine gv_newa F k112 hK hP hD hS hA 49 rfl (by decide) (Nat.le_of_ble_eq_true rfl) (Nat.le_of_ble_eq_true rfl) dX2_init_15 (fun q2 H hP hD hS => ?_)
  have hP : va_P D vwCl ((h0, .inr (2, [.ref q1, .null])) :: ([(q1, gA cy 49 (fun _ => 0))] ++ [(q2, gA cy 49 (fun _ => 0))])) H := hP
  have hD : va_D A ((h0, .inr (2, [.ref q1, .null])) :: ([(q1, gA cy 49 (fun _ => 0))] ++ [(q2, gA cy 49 (fun _ => 0))])) := hD
  refine W.widen (k := 2) (n := 98) (by omega) (by omega) ?_
  refine va_putF (D := D) (ci := 2) (v := .ref q2) (ty := (.array .int)) (C := RX2) (T := TX2) (N := 2) F.1 F.2.1 F.2.2.2.2 hin2 tyX2 tyX2_ok nmX2 F.2.2.2.1 hK hP hD hS 0 rfl rfl 1 (by decide) (F.2.2.2.2 _ k106) (fun _ h9 => h9) rfl hin rfl (by decide +kernel) rfl rfl (Nat.le_of_ble_eq_true rfl) dX2_init_17 (fun H locs hP hD hS => ?_)
  have hP : va_P D vwCl ((h0, .inr (2, [.ref q1, .ref q2])) :: ([(q1, gA cy 49 (fun _ => 0))] ++ [(q2, gA cy 49 (fun _ => 0))])) H := hP
  have hD : va_D A ((h0, .inr (2, [.ref q1, .ref q2])) :: ([(q1, gA cy 49 (fun _ => 0))] ++ [(q2, gA cy 49 (fun _ => 0))])) := hD
  refine lv_aload_n F.1 F.2.1 dX2_init_20 rfl (lv_at hl 0 rfl) ?_
  obtain ⟨ad, ead⟩ : ∃ ad : Nat → Nat, ad = (fun k => match k with | 0 => h0 | 1 => q1 | _ => q2) := ⟨_, rfl⟩
  have hP : va_P D vwCl (wRo cy ad (fun _ => 0) (fun _ => 0)) H := by subst ead; exact hP
  have hD : va_D A (wRo cy ad (fun _ => 0) (fun _ => 0)) := by subst ead; exact hD
  have e0 : h0 = ad 0 := by subst ead; rfl
  rw [e0]
  refine gc_VV (As := []) (wn := fun u : AR => wRo cy ad (fun _ => 0) u) F hK hA hP hD hS hP hD (fun u H1 _ h1 h2 => ⟨h1, h2⟩) (c_X2_measure l D cy ad (fun _ => 0) (fun _ => 0) _ h) (cwV 0 F.2.2.2.2 (gG_V k94 k96 k0 k63 k97) rfl rfl rfl hd_X2_measure ⟨Nat.le_of_ble_eq_true rfl, Nat.le_of_ble_eq_true rfl⟩) rfl rfl dX2_init_21 rfl rfl hl.1 (Nat.le_of_ble_eq_true rfl) ⟨Nat.le_of_ble_eq_true rfl, Nat.le_of_ble_eq_true rfl⟩ (fun z H locs hz hP hD hS => ?_)
  try dsimp only at hP hD
  exact ret (ad, z) H locs 24 ls ⟨e0.symm, hz⟩ hP hD hS dX2_init_24
theorem wMu_13 {cy : ClassId} {ad : Nat → Nat} {M : MS} : wMu cy ad M = [(ad 0, eMu ad M), (ad 1, .inr (2, [.ref (ad 2), .ref (ad 3)])), (ad 2, gA cy 49 (M 2)), (ad 3, gA cy 49 (M 3)), (ad 4, gA cy 8 (M 4)), (ad 5, gA cy 8 (M 5)), (ad 6, gA cy 8 (M 6)), (ad 7, gA cy 8 (M 7)), (ad 8, gA cy 5 (M 8)), (ad 9, gA cy 5 (M 9)), (ad 10, gA cy 5 (M 10)), (ad 11, gA cy 5 (M 11)), (ad 12, gA cy 5 (M 12))] ++ (wAr cy (ad 13) 40 (M 13) ++ [(ad 14, gA cy 40 (M 14))]) := rfl
theorem wMu_132 {cy : ClassId} {ad : Nat → Nat} {M : MS} {X : AR} : wMu cy ad (uc M 13 X) = [(ad 0, eMu ad M), (ad 1, .inr (2, [.ref (ad 2), .ref (ad 3)])), (ad 2, gA cy 49 (M 2)), (ad 3, gA cy 49 (M 3)), (ad 4, gA cy 8 (M 4)), (ad 5, gA cy 8 (M 5)), (ad 6, gA cy 8 (M 6)), (ad 7, gA cy 8 (M 7)), (ad 8, gA cy 5 (M 8)), (ad 9, gA cy 5 (M 9)), (ad 10, gA cy 5 (M 10)), (ad 11, gA cy 5 (M 11)), (ad 12, gA cy 5 (M 12))] ++ (wAr cy (ad 13) 40 X ++ [(ad 14, gA cy 40 (M 14))]) := by
  simp [wMu, wAr, eMu, uc]
theorem cp_mu_13 {cy : ClassId} {ad : Nat → Nat} {M : MS} {D : va_G} {cl : List vw_C} {H : Heap} (hP : va_P D cl (wMu cy ad M) H) : va_P D cl (wAr cy (ad 13) 40 (M 13)) H := gP_mid (wMu_13 ▸ hP)
theorem cd_mu_13 {cy : ClassId} {ad : Nat → Nat} {M : MS} {A : Nat → Prop} (hD : va_D A (wMu cy ad M)) : va_D A (wAr cy (ad 13) 40 (M 13)) := gD_mid (wMu_13 ▸ hD)
theorem cj_mu_13 {cy : ClassId} {ad : Nat → Nat} {M : MS} {D : va_G} {cl : List vw_C} {H : Heap} {A : Nat → Prop} (hP : va_P D cl (wMu cy ad M) H) (hD : va_D A (wMu cy ad M)) (X : AR) (H1 : Heap) (hk : ∀ q : Nat, q < H.size → ¬ va_A (wAr cy (ad 13) 40 (M 13)) H.size q → H1[q]? = H[q]?) (hP1 : va_P D cl (wAr cy (ad 13) 40 X) H1) : va_P D cl (wMu cy ad (uc M 13 X)) H1 ∧ va_D A (wMu cy ad (uc M 13 X)) := by
  rw [wMu_13] at hP hD
  rw [wMu_132]
  exact gJ_mid hP hD hk hP1 rfl
def m00 (fa : AR) : MS := fun c => if c = 3 then fa else fun _ => 0
def m0 (fa : AR) : MS := uc (uc (m00 fa) 13 (fun _ => -9)) 14 (fun _ => -9)
theorem hd_X1_init : yX1_init.cls ≠ "java/lang/invoke/MethodHandle" ∧ yX1_init.cls ≠ "java/lang/invoke/VarHandle" ∧ (parseMethodDescriptor yX1_init.desc).map (fun d => d.parameters.length) = some 0 := by decide +kernel
abbrev rX1_init : Room := { frames := 4, cells := 14, slots := 237, locals := 86 }
set_option maxHeartbeats 4000000 in
set_option maxRecDepth 20000 in
theorem c_X1_init (l : Launch) (D : va_G) (cy : ClassId) (h0 : Nat) (fa0 : AR) (h : wX2_measure (fun _ => 0) (fun _ => 0) (fun z => z = fa0)) : MetN (S := Nat → Nat) l yX1_init (wT yX1_init cX1_init 1 none) rX1_init D cy [.ref h0] [(h0, .inr (1, [.null, .int (iI 0), .int (iI 0), .null, .null, .null, .null, .int (iI 0), .null, .null, .null, .null, .null, .null, .null]))] 14 237 (fun ad => wMu cy ad (m0 fa0)) (fun ad => ad 0 = h0) := by
  refine gI_N (by decide) (Nat.le_of_ble_eq_true rfl) rfl ?_
  intro p e s m args below meth c A Qg F hin hK hA ret H locs ls hl hP hD hS
  have F : CallFix p m c cX1_init 1 s args gT RX1 := F
  have hl : lv_has ls 1 [(0, .ref h0)] := hl
  refine lv_aload_n F.1 F.2.1 dX1_init_0 rfl (lv_at hl 0 rfl) ?_
  refine W.objInit F.1 F.2.1 F.2.2.2.1 (F.2.2.2.2 _ k87) (F.2.2.2.2 _ k80) (F.2.2.2.2 _ k81) rfl (by rw [F.2.2.1]; exact hl.1) rfl dX1_init_1 (Nat.le_of_ble_eq_true rfl) (Nat.le_of_ble_eq_true rfl) ?_
  refine W.eq (g2 := F0 m 4 ls []) rfl ?_
  refine lv_aload_n F.1 F.2.1 dX1_init_4 rfl (lv_at hl 0 rfl) ?_
  refine va_new (ci := 2) (fs := [.null, .null]) (C := RX2) (T := TX2) (N := 2) F.1 F.2.1 F.2.2.2.2 hin2 tyX2 tyX2_ok F.2.2.2.1 (F.2.2.2.2 _ k88) (F.2.2.2.2 _ k89) (F.2.2.2.2 _ k63) hK hP hD hS hA rfl (fun j hj => by rcases (show j = 0 ∨ j = 1 by omega) with rfl | rfl <;> rfl) (Nat.le_of_ble_eq_true rfl) (Nat.le_of_ble_eq_true rfl) dX1_init_5 (fun q1 H hP hD hS => ?_)
  refine W.widen (k := 1) (n := 2) (by omega) (by omega) ?_
  refine lv_dup F.1 F.2.1 dX1_init_8 rfl ?_
  have hP : va_P D vwCl ([(h0, .inr (1, [.null, .int (iI 0), .int (iI 0), .null, .null, .null, .null, .int (iI 0), .null, .null, .null, .null, .null, .null, .null]))] ++ [(q1, .inr (2, [.null, .null]))]) H := hP
  have hD : va_D A ([(h0, .inr (1, [.null, .int (iI 0), .int (iI 0), .null, .null, .null, .null, .int (iI 0), .null, .null, .null, .null, .null, .null, .null]))] ++ [(q1, .inr (2, [.null, .null]))]) := hD
  refine gc_N F hK hA hP hD hS (c_X2_init l D cy q1 fa0 h) (cwI 0 F.2.2.2.2 (gN_words (own := RX1) k92) rfl rfl rfl (F.2.2.2.2 _ k63) (F.2.2.2.2 _ k90) (F.2.2.2.2 _ k91) rfl hd_X2_init ⟨Nat.le_of_ble_eq_true rfl, Nat.le_of_ble_eq_true rfl⟩) dX1_init_9 rfl hl.1 (Nat.le_of_ble_eq_true rfl) ⟨Nat.le_of_ble_eq_true rfl, Nat.le_of_ble_eq_true rfl⟩ (fun u H locs hu hP hD hS => ?_)
  obtain ⟨ar, fz⟩ := u
  obtain ⟨ea, ez⟩ := hu
  dsimp only at ez
  subst ez
  dsimp only at ea hP hD
  rw [← ea]
  refine W.widen (k := 3) (n := 100) (by omega) (by omega) ?_
  have hP : va_P D vwCl ((h0, .inr (1, [.null, .int (iI 0), .int (iI 0), .null, .null, .null, .null, .int (iI 0), .null, .null, .null, .null, .null, .null, .null])) :: wRo cy ar (fun _ => 0) fz) H := hP
  have hD : va_D A ((h0, .inr (1, [.null, .int (iI 0), .int (iI 0), .null, .null, .null, .null, .int (iI 0), .null, .null, .null, .null, .null, .null, .null])) :: wRo cy ar (fun _ => 0) fz) := hD
  refine va_putF (D := D) (ci := 1) (v := .ref (ar 0)) (ty := (.object "GreenHorseUpstairs$Rooms")) (C := RX1) (T := TX1) (N := 15) F.1 F.2.1 F.2.2.2.2 hin1 tyX1 tyX1_ok nmX1 F.2.2.2.1 hK hP hD hS 0 rfl rfl 0 (by decide) (F.2.2.2.2 _ k116) (fun _ h9 => h9) rfl hin rfl (by decide +kernel) rfl rfl (Nat.le_of_ble_eq_true rfl) dX1_init_12 (fun H locs hP hD hS => ?_)
  have hP : va_P D vwCl ((h0, .inr (1, [.ref (ar 0), .int (iI 0), .int (iI 0), .null, .null, .null, .null, .int (iI 0), .null, .null, .null, .null, .null, .null, .null])) :: wRo cy ar (fun _ => 0) fz) H := hP
  have hD : va_D A ((h0, .inr (1, [.ref (ar 0), .int (iI 0), .int (iI 0), .null, .null, .null, .null, .int (iI 0), .null, .null, .null, .null, .null, .null, .null])) :: wRo cy ar (fun _ => 0) fz) := hD
  refine lv_aload_n F.1 F.2.1 dX1_init_15 rfl (lv_at hl 0 rfl) ?_
  refine gv_iconst F dX1_init_16 ?_
  refine gv_put (ws' := (h0, .inr (1, [.ref (ar 0), .int (iI 0), .int (iI 0), .null, .null, .null, .null, .int (iI 0), .null, .null, .null, .null, .null, .null, .null])) :: wRo cy ar (fun _ => 0) fz) F hin1 tyX1 tyX1_ok nmX1 hK hP hD hS 0 rfl rfl 1 (by decide) k118 rfl (ty := .int) (by decide +kernel) rfl rfl (Nat.le_of_ble_eq_true rfl) rfl dX1_init_17 (fun H locs hP hD hS => ?_)
  refine lv_aload_n F.1 F.2.1 dX1_init_20 rfl (lv_at hl 0 rfl) ?_
  refine gv_iconst F dX1_init_21 ?_
  refine gv_put (ws' := (h0, .inr (1, [.ref (ar 0), .int (iI 0), .int (iI 0), .null, .null, .null, .null, .int (iI 0), .null, .null, .null, .null, .null, .null, .null])) :: wRo cy ar (fun _ => 0) fz) F hin1 tyX1 tyX1_ok nmX1 hK hP hD hS 0 rfl rfl 2 (by decide) k120 rfl (ty := .int) (by decide +kernel) rfl rfl (Nat.le_of_ble_eq_true rfl) rfl dX1_init_22 (fun H locs hP hD hS => ?_)
  refine lv_aload_n F.1 F.2.1 dX1_init_25 rfl (lv_at hl 0 rfl) ?_
  refine gv_bipush F ⟨by decide, by decide⟩ dX1_init_26 ?_
  refine gv_newa F k112 hK hP hD hS hA 8 rfl (by decide) (Nat.le_of_ble_eq_true rfl) (Nat.le_of_ble_eq_true rfl) dX1_init_28 (fun q2 H hP hD hS => ?_)
  have hP : va_P D vwCl ((h0, .inr (1, [.ref (ar 0), .int (iI 0), .int (iI 0), .null, .null, .null, .null, .int (iI 0), .null, .null, .null, .null, .null, .null, .null])) :: (wRo cy ar (fun _ => 0) fz ++ [(q2, gA cy 8 (fun _ => 0))])) H := hP
  have hD : va_D A ((h0, .inr (1, [.ref (ar 0), .int (iI 0), .int (iI 0), .null, .null, .null, .null, .int (iI 0), .null, .null, .null, .null, .null, .null, .null])) :: (wRo cy ar (fun _ => 0) fz ++ [(q2, gA cy 8 (fun _ => 0))])) := hD
  refine W.widen (k := 4) (n := 108) (by omega) (by omega) ?_
  refine va_putF (D := D) (ci := 1) (v := .ref q2) (ty := (.array .int)) (C := RX1) (T := TX1) (N := 15) F.1 F.2.1 F.2.2.2.2 hin1 tyX1 tyX1_ok nmX1 F.2.2.2.1 hK hP hD hS 0 rfl rfl 3 (by decide) (F.2.2.2.2 _ k122) (fun _ h9 => h9) rfl hin rfl (by decide +kernel) rfl rfl (Nat.le_of_ble_eq_true rfl) dX1_init_30 (fun H locs hP hD hS => ?_)
  have hP : va_P D vwCl ((h0, .inr (1, [.ref (ar 0), .int (iI 0), .int (iI 0), .ref q2, .null, .null, .null, .int (iI 0), .null, .null, .null, .null, .null, .null, .null])) :: (wRo cy ar (fun _ => 0) fz ++ [(q2, gA cy 8 (fun _ => 0))])) H := hP
  have hD : va_D A ((h0, .inr (1, [.ref (ar 0), .int (iI 0), .int (iI 0), .ref q2, .null, .null, .null, .int (iI 0), .null, .null, .null, .null, .null, .null, .null])) :: (wRo cy ar (fun _ => 0) fz ++ [(q2, gA cy 8 (fun _ => 0))])) := hD
  refine lv_aload_n F.1 F.2.1 dX1_init_33 rfl (lv_at hl 0 rfl) ?_
  refine gv_bipush F ⟨by decide, by decide⟩ dX1_init_34 ?_
  refine gv_newa F k112 hK hP hD hS hA 8 rfl (by decide) (Nat.le_of_ble_eq_true rfl) (Nat.le_of_ble_eq_true rfl) dX1_init_36 (fun q3 H hP hD hS => ?_)
  have hP : va_P D vwCl ((h0, .inr (1, [.ref (ar 0), .int (iI 0), .int (iI 0), .ref q2, .null, .null, .null, .int (iI 0), .null, .null, .null, .null, .null, .null, .null])) :: ((wRo cy ar (fun _ => 0) fz ++ [(q2, gA cy 8 (fun _ => 0))]) ++ [(q3, gA cy 8 (fun _ => 0))])) H := hP
  have hD : va_D A ((h0, .inr (1, [.ref (ar 0), .int (iI 0), .int (iI 0), .ref q2, .null, .null, .null, .int (iI 0), .null, .null, .null, .null, .null, .null, .null])) :: ((wRo cy ar (fun _ => 0) fz ++ [(q2, gA cy 8 (fun _ => 0))]) ++ [(q3, gA cy 8 (fun _ => 0))])) := hD
  refine W.widen (k := 5) (n := 116) (by omega) (by omega) ?_
  refine va_putF (D := D) (ci := 1) (v := .ref q3) (ty := (.array .int)) (C := RX1) (T := TX1) (N := 15) F.1 F.2.1 F.2.2.2.2 hin1 tyX1 tyX1_ok nmX1 F.2.2.2.1 hK hP hD hS 0 rfl rfl 4 (by decide) (F.2.2.2.2 _ k124) (fun _ h9 => h9) rfl hin rfl (by decide +kernel) rfl rfl (Nat.le_of_ble_eq_true rfl) dX1_init_38 (fun H locs hP hD hS => ?_)
  have hP : va_P D vwCl ((h0, .inr (1, [.ref (ar 0), .int (iI 0), .int (iI 0), .ref q2, .ref q3, .null, .null, .int (iI 0), .null, .null, .null, .null, .null, .null, .null])) :: ((wRo cy ar (fun _ => 0) fz ++ [(q2, gA cy 8 (fun _ => 0))]) ++ [(q3, gA cy 8 (fun _ => 0))])) H := hP
  have hD : va_D A ((h0, .inr (1, [.ref (ar 0), .int (iI 0), .int (iI 0), .ref q2, .ref q3, .null, .null, .int (iI 0), .null, .null, .null, .null, .null, .null, .null])) :: ((wRo cy ar (fun _ => 0) fz ++ [(q2, gA cy 8 (fun _ => 0))]) ++ [(q3, gA cy 8 (fun _ => 0))])) := hD
  refine lv_aload_n F.1 F.2.1 dX1_init_41 rfl (lv_at hl 0 rfl) ?_
  refine gv_bipush F ⟨by decide, by decide⟩ dX1_init_42 ?_
  refine gv_newa F k112 hK hP hD hS hA 8 rfl (by decide) (Nat.le_of_ble_eq_true rfl) (Nat.le_of_ble_eq_true rfl) dX1_init_44 (fun q4 H hP hD hS => ?_)
  have hP : va_P D vwCl ((h0, .inr (1, [.ref (ar 0), .int (iI 0), .int (iI 0), .ref q2, .ref q3, .null, .null, .int (iI 0), .null, .null, .null, .null, .null, .null, .null])) :: (((wRo cy ar (fun _ => 0) fz ++ [(q2, gA cy 8 (fun _ => 0))]) ++ [(q3, gA cy 8 (fun _ => 0))]) ++ [(q4, gA cy 8 (fun _ => 0))])) H := hP
  have hD : va_D A ((h0, .inr (1, [.ref (ar 0), .int (iI 0), .int (iI 0), .ref q2, .ref q3, .null, .null, .int (iI 0), .null, .null, .null, .null, .null, .null, .null])) :: (((wRo cy ar (fun _ => 0) fz ++ [(q2, gA cy 8 (fun _ => 0))]) ++ [(q3, gA cy 8 (fun _ => 0))]) ++ [(q4, gA cy 8 (fun _ => 0))])) := hD
  refine W.widen (k := 6) (n := 124) (by omega) (by omega) ?_
  refine va_putF (D := D) (ci := 1) (v := .ref q4) (ty := (.array .int)) (C := RX1) (T := TX1) (N := 15) F.1 F.2.1 F.2.2.2.2 hin1 tyX1 tyX1_ok nmX1 F.2.2.2.1 hK hP hD hS 0 rfl rfl 5 (by decide) (F.2.2.2.2 _ k126) (fun _ h9 => h9) rfl hin rfl (by decide +kernel) rfl rfl (Nat.le_of_ble_eq_true rfl) dX1_init_46 (fun H locs hP hD hS => ?_)
  have hP : va_P D vwCl ((h0, .inr (1, [.ref (ar 0), .int (iI 0), .int (iI 0), .ref q2, .ref q3, .ref q4, .null, .int (iI 0), .null, .null, .null, .null, .null, .null, .null])) :: (((wRo cy ar (fun _ => 0) fz ++ [(q2, gA cy 8 (fun _ => 0))]) ++ [(q3, gA cy 8 (fun _ => 0))]) ++ [(q4, gA cy 8 (fun _ => 0))])) H := hP
  have hD : va_D A ((h0, .inr (1, [.ref (ar 0), .int (iI 0), .int (iI 0), .ref q2, .ref q3, .ref q4, .null, .int (iI 0), .null, .null, .null, .null, .null, .null, .null])) :: (((wRo cy ar (fun _ => 0) fz ++ [(q2, gA cy 8 (fun _ => 0))]) ++ [(q3, gA cy 8 (fun _ => 0))]) ++ [(q4, gA cy 8 (fun _ => 0))])) := hD
  refine lv_aload_n F.1 F.2.1 dX1_init_49 rfl (lv_at hl 0 rfl) ?_
  refine gv_bipush F ⟨by decide, by decide⟩ dX1_init_50 ?_
  refine gv_newa F k112 hK hP hD hS hA 8 rfl (by decide) (Nat.le_of_ble_eq_true rfl) (Nat.le_of_ble_eq_true rfl) dX1_init_52 (fun q5 H hP hD hS => ?_)
  have hP : va_P D vwCl ((h0, .inr (1, [.ref (ar 0), .int (iI 0), .int (iI 0), .ref q2, .ref q3, .ref q4, .null, .int (iI 0), .null, .null, .null, .null, .null, .null, .null])) :: ((((wRo cy ar (fun _ => 0) fz ++ [(q2, gA cy 8 (fun _ => 0))]) ++ [(q3, gA cy 8 (fun _ => 0))]) ++ [(q4, gA cy 8 (fun _ => 0))]) ++ [(q5, gA cy 8 (fun _ => 0))])) H := hP
  have hD : va_D A ((h0, .inr (1, [.ref (ar 0), .int (iI 0), .int (iI 0), .ref q2, .ref q3, .ref q4, .null, .int (iI 0), .null, .null, .null, .null, .null, .null, .null])) :: ((((wRo cy ar (fun _ => 0) fz ++ [(q2, gA cy 8 (fun _ => 0))]) ++ [(q3, gA cy 8 (fun _ => 0))]) ++ [(q4, gA cy 8 (fun _ => 0))]) ++ [(q5, gA cy 8 (fun _ => 0))])) := hD
  refine W.widen (k := 7) (n := 132) (by omega) (by omega) ?_
  refine va_putF (D := D) (ci := 1) (v := .ref q5) (ty := (.array .int)) (C := RX1) (T := TX1) (N := 15) F.1 F.2.1 F.2.2.2.2 hin1 tyX1 tyX1_ok nmX1 F.2.2.2.1 hK hP hD hS 0 rfl rfl 6 (by decide) (F.2.2.2.2 _ k128) (fun _ h9 => h9) rfl hin rfl (by decide +kernel) rfl rfl (Nat.le_of_ble_eq_true rfl) dX1_init_54 (fun H locs hP hD hS => ?_)
  have hP : va_P D vwCl ((h0, .inr (1, [.ref (ar 0), .int (iI 0), .int (iI 0), .ref q2, .ref q3, .ref q4, .ref q5, .int (iI 0), .null, .null, .null, .null, .null, .null, .null])) :: ((((wRo cy ar (fun _ => 0) fz ++ [(q2, gA cy 8 (fun _ => 0))]) ++ [(q3, gA cy 8 (fun _ => 0))]) ++ [(q4, gA cy 8 (fun _ => 0))]) ++ [(q5, gA cy 8 (fun _ => 0))])) H := hP
  have hD : va_D A ((h0, .inr (1, [.ref (ar 0), .int (iI 0), .int (iI 0), .ref q2, .ref q3, .ref q4, .ref q5, .int (iI 0), .null, .null, .null, .null, .null, .null, .null])) :: ((((wRo cy ar (fun _ => 0) fz ++ [(q2, gA cy 8 (fun _ => 0))]) ++ [(q3, gA cy 8 (fun _ => 0))]) ++ [(q4, gA cy 8 (fun _ => 0))]) ++ [(q5, gA cy 8 (fun _ => 0))])) := hD
  refine lv_aload_n F.1 F.2.1 dX1_init_57 rfl (lv_at hl 0 rfl) ?_
  refine gv_iconst F dX1_init_58 ?_
  refine gv_put (ws' := (h0, .inr (1, [.ref (ar 0), .int (iI 0), .int (iI 0), .ref q2, .ref q3, .ref q4, .ref q5, .int (iI 0), .null, .null, .null, .null, .null, .null, .null])) :: ((((wRo cy ar (fun _ => 0) fz ++ [(q2, gA cy 8 (fun _ => 0))]) ++ [(q3, gA cy 8 (fun _ => 0))]) ++ [(q4, gA cy 8 (fun _ => 0))]) ++ [(q5, gA cy 8 (fun _ => 0))])) F hin1 tyX1 tyX1_ok nmX1 hK hP hD hS 0 rfl rfl 7 (by decide) k130 rfl (ty := .int) (by decide +kernel) rfl rfl (Nat.le_of_ble_eq_true rfl) rfl dX1_init_59 (fun H locs hP hD hS => ?_)
  refine lv_aload_n F.1 F.2.1 dX1_init_62 rfl (lv_at hl 0 rfl) ?_
  refine gv_iconst F dX1_init_63 ?_
  refine gv_newa F k112 hK hP hD hS hA 5 rfl (by decide) (Nat.le_of_ble_eq_true rfl) (Nat.le_of_ble_eq_true rfl) dX1_init_64 (fun q6 H hP hD hS => ?_)
  have hP : va_P D vwCl ((h0, .inr (1, [.ref (ar 0), .int (iI 0), .int (iI 0), .ref q2, .ref q3, .ref q4, .ref q5, .int (iI 0), .null, .null, .null, .null, .null, .null, .null])) :: (((((wRo cy ar (fun _ => 0) fz ++ [(q2, gA cy 8 (fun _ => 0))]) ++ [(q3, gA cy 8 (fun _ => 0))]) ++ [(q4, gA cy 8 (fun _ => 0))]) ++ [(q5, gA cy 8 (fun _ => 0))]) ++ [(q6, gA cy 5 (fun _ => 0))])) H := hP
  have hD : va_D A ((h0, .inr (1, [.ref (ar 0), .int (iI 0), .int (iI 0), .ref q2, .ref q3, .ref q4, .ref q5, .int (iI 0), .null, .null, .null, .null, .null, .null, .null])) :: (((((wRo cy ar (fun _ => 0) fz ++ [(q2, gA cy 8 (fun _ => 0))]) ++ [(q3, gA cy 8 (fun _ => 0))]) ++ [(q4, gA cy 8 (fun _ => 0))]) ++ [(q5, gA cy 8 (fun _ => 0))]) ++ [(q6, gA cy 5 (fun _ => 0))])) := hD
  refine W.widen (k := 8) (n := 137) (by omega) (by omega) ?_
  refine va_putF (D := D) (ci := 1) (v := .ref q6) (ty := (.array .int)) (C := RX1) (T := TX1) (N := 15) F.1 F.2.1 F.2.2.2.2 hin1 tyX1 tyX1_ok nmX1 F.2.2.2.1 hK hP hD hS 0 rfl rfl 8 (by decide) (F.2.2.2.2 _ k132) (fun _ h9 => h9) rfl hin rfl (by decide +kernel) rfl rfl (Nat.le_of_ble_eq_true rfl) dX1_init_66 (fun H locs hP hD hS => ?_)
  have hP : va_P D vwCl ((h0, .inr (1, [.ref (ar 0), .int (iI 0), .int (iI 0), .ref q2, .ref q3, .ref q4, .ref q5, .int (iI 0), .ref q6, .null, .null, .null, .null, .null, .null])) :: (((((wRo cy ar (fun _ => 0) fz ++ [(q2, gA cy 8 (fun _ => 0))]) ++ [(q3, gA cy 8 (fun _ => 0))]) ++ [(q4, gA cy 8 (fun _ => 0))]) ++ [(q5, gA cy 8 (fun _ => 0))]) ++ [(q6, gA cy 5 (fun _ => 0))])) H := hP
  have hD : va_D A ((h0, .inr (1, [.ref (ar 0), .int (iI 0), .int (iI 0), .ref q2, .ref q3, .ref q4, .ref q5, .int (iI 0), .ref q6, .null, .null, .null, .null, .null, .null])) :: (((((wRo cy ar (fun _ => 0) fz ++ [(q2, gA cy 8 (fun _ => 0))]) ++ [(q3, gA cy 8 (fun _ => 0))]) ++ [(q4, gA cy 8 (fun _ => 0))]) ++ [(q5, gA cy 8 (fun _ => 0))]) ++ [(q6, gA cy 5 (fun _ => 0))])) := hD
  refine lv_aload_n F.1 F.2.1 dX1_init_69 rfl (lv_at hl 0 rfl) ?_
  refine gv_iconst F dX1_init_70 ?_
  refine gv_newa F k112 hK hP hD hS hA 5 rfl (by decide) (Nat.le_of_ble_eq_true rfl) (Nat.le_of_ble_eq_true rfl) dX1_init_71 (fun q7 H hP hD hS => ?_)
  have hP : va_P D vwCl ((h0, .inr (1, [.ref (ar 0), .int (iI 0), .int (iI 0), .ref q2, .ref q3, .ref q4, .ref q5, .int (iI 0), .ref q6, .null, .null, .null, .null, .null, .null])) :: ((((((wRo cy ar (fun _ => 0) fz ++ [(q2, gA cy 8 (fun _ => 0))]) ++ [(q3, gA cy 8 (fun _ => 0))]) ++ [(q4, gA cy 8 (fun _ => 0))]) ++ [(q5, gA cy 8 (fun _ => 0))]) ++ [(q6, gA cy 5 (fun _ => 0))]) ++ [(q7, gA cy 5 (fun _ => 0))])) H := hP
  have hD : va_D A ((h0, .inr (1, [.ref (ar 0), .int (iI 0), .int (iI 0), .ref q2, .ref q3, .ref q4, .ref q5, .int (iI 0), .ref q6, .null, .null, .null, .null, .null, .null])) :: ((((((wRo cy ar (fun _ => 0) fz ++ [(q2, gA cy 8 (fun _ => 0))]) ++ [(q3, gA cy 8 (fun _ => 0))]) ++ [(q4, gA cy 8 (fun _ => 0))]) ++ [(q5, gA cy 8 (fun _ => 0))]) ++ [(q6, gA cy 5 (fun _ => 0))]) ++ [(q7, gA cy 5 (fun _ => 0))])) := hD
  refine W.widen (k := 9) (n := 142) (by omega) (by omega) ?_
  refine va_putF (D := D) (ci := 1) (v := .ref q7) (ty := (.array .int)) (C := RX1) (T := TX1) (N := 15) F.1 F.2.1 F.2.2.2.2 hin1 tyX1 tyX1_ok nmX1 F.2.2.2.1 hK hP hD hS 0 rfl rfl 9 (by decide) (F.2.2.2.2 _ k134) (fun _ h9 => h9) rfl hin rfl (by decide +kernel) rfl rfl (Nat.le_of_ble_eq_true rfl) dX1_init_73 (fun H locs hP hD hS => ?_)
  have hP : va_P D vwCl ((h0, .inr (1, [.ref (ar 0), .int (iI 0), .int (iI 0), .ref q2, .ref q3, .ref q4, .ref q5, .int (iI 0), .ref q6, .ref q7, .null, .null, .null, .null, .null])) :: ((((((wRo cy ar (fun _ => 0) fz ++ [(q2, gA cy 8 (fun _ => 0))]) ++ [(q3, gA cy 8 (fun _ => 0))]) ++ [(q4, gA cy 8 (fun _ => 0))]) ++ [(q5, gA cy 8 (fun _ => 0))]) ++ [(q6, gA cy 5 (fun _ => 0))]) ++ [(q7, gA cy 5 (fun _ => 0))])) H := hP
  have hD : va_D A ((h0, .inr (1, [.ref (ar 0), .int (iI 0), .int (iI 0), .ref q2, .ref q3, .ref q4, .ref q5, .int (iI 0), .ref q6, .ref q7, .null, .null, .null, .null, .null])) :: ((((((wRo cy ar (fun _ => 0) fz ++ [(q2, gA cy 8 (fun _ => 0))]) ++ [(q3, gA cy 8 (fun _ => 0))]) ++ [(q4, gA cy 8 (fun _ => 0))]) ++ [(q5, gA cy 8 (fun _ => 0))]) ++ [(q6, gA cy 5 (fun _ => 0))]) ++ [(q7, gA cy 5 (fun _ => 0))])) := hD
  refine lv_aload_n F.1 F.2.1 dX1_init_76 rfl (lv_at hl 0 rfl) ?_
  refine gv_iconst F dX1_init_77 ?_
  refine gv_newa F k112 hK hP hD hS hA 5 rfl (by decide) (Nat.le_of_ble_eq_true rfl) (Nat.le_of_ble_eq_true rfl) dX1_init_78 (fun q8 H hP hD hS => ?_)
  have hP : va_P D vwCl ((h0, .inr (1, [.ref (ar 0), .int (iI 0), .int (iI 0), .ref q2, .ref q3, .ref q4, .ref q5, .int (iI 0), .ref q6, .ref q7, .null, .null, .null, .null, .null])) :: (((((((wRo cy ar (fun _ => 0) fz ++ [(q2, gA cy 8 (fun _ => 0))]) ++ [(q3, gA cy 8 (fun _ => 0))]) ++ [(q4, gA cy 8 (fun _ => 0))]) ++ [(q5, gA cy 8 (fun _ => 0))]) ++ [(q6, gA cy 5 (fun _ => 0))]) ++ [(q7, gA cy 5 (fun _ => 0))]) ++ [(q8, gA cy 5 (fun _ => 0))])) H := hP
  have hD : va_D A ((h0, .inr (1, [.ref (ar 0), .int (iI 0), .int (iI 0), .ref q2, .ref q3, .ref q4, .ref q5, .int (iI 0), .ref q6, .ref q7, .null, .null, .null, .null, .null])) :: (((((((wRo cy ar (fun _ => 0) fz ++ [(q2, gA cy 8 (fun _ => 0))]) ++ [(q3, gA cy 8 (fun _ => 0))]) ++ [(q4, gA cy 8 (fun _ => 0))]) ++ [(q5, gA cy 8 (fun _ => 0))]) ++ [(q6, gA cy 5 (fun _ => 0))]) ++ [(q7, gA cy 5 (fun _ => 0))]) ++ [(q8, gA cy 5 (fun _ => 0))])) := hD
  refine W.widen (k := 10) (n := 147) (by omega) (by omega) ?_
  refine va_putF (D := D) (ci := 1) (v := .ref q8) (ty := (.array .int)) (C := RX1) (T := TX1) (N := 15) F.1 F.2.1 F.2.2.2.2 hin1 tyX1 tyX1_ok nmX1 F.2.2.2.1 hK hP hD hS 0 rfl rfl 10 (by decide) (F.2.2.2.2 _ k136) (fun _ h9 => h9) rfl hin rfl (by decide +kernel) rfl rfl (Nat.le_of_ble_eq_true rfl) dX1_init_80 (fun H locs hP hD hS => ?_)
  have hP : va_P D vwCl ((h0, .inr (1, [.ref (ar 0), .int (iI 0), .int (iI 0), .ref q2, .ref q3, .ref q4, .ref q5, .int (iI 0), .ref q6, .ref q7, .ref q8, .null, .null, .null, .null])) :: (((((((wRo cy ar (fun _ => 0) fz ++ [(q2, gA cy 8 (fun _ => 0))]) ++ [(q3, gA cy 8 (fun _ => 0))]) ++ [(q4, gA cy 8 (fun _ => 0))]) ++ [(q5, gA cy 8 (fun _ => 0))]) ++ [(q6, gA cy 5 (fun _ => 0))]) ++ [(q7, gA cy 5 (fun _ => 0))]) ++ [(q8, gA cy 5 (fun _ => 0))])) H := hP
  have hD : va_D A ((h0, .inr (1, [.ref (ar 0), .int (iI 0), .int (iI 0), .ref q2, .ref q3, .ref q4, .ref q5, .int (iI 0), .ref q6, .ref q7, .ref q8, .null, .null, .null, .null])) :: (((((((wRo cy ar (fun _ => 0) fz ++ [(q2, gA cy 8 (fun _ => 0))]) ++ [(q3, gA cy 8 (fun _ => 0))]) ++ [(q4, gA cy 8 (fun _ => 0))]) ++ [(q5, gA cy 8 (fun _ => 0))]) ++ [(q6, gA cy 5 (fun _ => 0))]) ++ [(q7, gA cy 5 (fun _ => 0))]) ++ [(q8, gA cy 5 (fun _ => 0))])) := hD
  refine lv_aload_n F.1 F.2.1 dX1_init_83 rfl (lv_at hl 0 rfl) ?_
  refine gv_iconst F dX1_init_84 ?_
  refine gv_newa F k112 hK hP hD hS hA 5 rfl (by decide) (Nat.le_of_ble_eq_true rfl) (Nat.le_of_ble_eq_true rfl) dX1_init_85 (fun q9 H hP hD hS => ?_)
  have hP : va_P D vwCl ((h0, .inr (1, [.ref (ar 0), .int (iI 0), .int (iI 0), .ref q2, .ref q3, .ref q4, .ref q5, .int (iI 0), .ref q6, .ref q7, .ref q8, .null, .null, .null, .null])) :: ((((((((wRo cy ar (fun _ => 0) fz ++ [(q2, gA cy 8 (fun _ => 0))]) ++ [(q3, gA cy 8 (fun _ => 0))]) ++ [(q4, gA cy 8 (fun _ => 0))]) ++ [(q5, gA cy 8 (fun _ => 0))]) ++ [(q6, gA cy 5 (fun _ => 0))]) ++ [(q7, gA cy 5 (fun _ => 0))]) ++ [(q8, gA cy 5 (fun _ => 0))]) ++ [(q9, gA cy 5 (fun _ => 0))])) H := hP
  have hD : va_D A ((h0, .inr (1, [.ref (ar 0), .int (iI 0), .int (iI 0), .ref q2, .ref q3, .ref q4, .ref q5, .int (iI 0), .ref q6, .ref q7, .ref q8, .null, .null, .null, .null])) :: ((((((((wRo cy ar (fun _ => 0) fz ++ [(q2, gA cy 8 (fun _ => 0))]) ++ [(q3, gA cy 8 (fun _ => 0))]) ++ [(q4, gA cy 8 (fun _ => 0))]) ++ [(q5, gA cy 8 (fun _ => 0))]) ++ [(q6, gA cy 5 (fun _ => 0))]) ++ [(q7, gA cy 5 (fun _ => 0))]) ++ [(q8, gA cy 5 (fun _ => 0))]) ++ [(q9, gA cy 5 (fun _ => 0))])) := hD
  refine W.widen (k := 11) (n := 152) (by omega) (by omega) ?_
  refine va_putF (D := D) (ci := 1) (v := .ref q9) (ty := (.array .int)) (C := RX1) (T := TX1) (N := 15) F.1 F.2.1 F.2.2.2.2 hin1 tyX1 tyX1_ok nmX1 F.2.2.2.1 hK hP hD hS 0 rfl rfl 11 (by decide) (F.2.2.2.2 _ k138) (fun _ h9 => h9) rfl hin rfl (by decide +kernel) rfl rfl (Nat.le_of_ble_eq_true rfl) dX1_init_87 (fun H locs hP hD hS => ?_)
  have hP : va_P D vwCl ((h0, .inr (1, [.ref (ar 0), .int (iI 0), .int (iI 0), .ref q2, .ref q3, .ref q4, .ref q5, .int (iI 0), .ref q6, .ref q7, .ref q8, .ref q9, .null, .null, .null])) :: ((((((((wRo cy ar (fun _ => 0) fz ++ [(q2, gA cy 8 (fun _ => 0))]) ++ [(q3, gA cy 8 (fun _ => 0))]) ++ [(q4, gA cy 8 (fun _ => 0))]) ++ [(q5, gA cy 8 (fun _ => 0))]) ++ [(q6, gA cy 5 (fun _ => 0))]) ++ [(q7, gA cy 5 (fun _ => 0))]) ++ [(q8, gA cy 5 (fun _ => 0))]) ++ [(q9, gA cy 5 (fun _ => 0))])) H := hP
  have hD : va_D A ((h0, .inr (1, [.ref (ar 0), .int (iI 0), .int (iI 0), .ref q2, .ref q3, .ref q4, .ref q5, .int (iI 0), .ref q6, .ref q7, .ref q8, .ref q9, .null, .null, .null])) :: ((((((((wRo cy ar (fun _ => 0) fz ++ [(q2, gA cy 8 (fun _ => 0))]) ++ [(q3, gA cy 8 (fun _ => 0))]) ++ [(q4, gA cy 8 (fun _ => 0))]) ++ [(q5, gA cy 8 (fun _ => 0))]) ++ [(q6, gA cy 5 (fun _ => 0))]) ++ [(q7, gA cy 5 (fun _ => 0))]) ++ [(q8, gA cy 5 (fun _ => 0))]) ++ [(q9, gA cy 5 (fun _ => 0))])) := hD
  refine lv_aload_n F.1 F.2.1 dX1_init_90 rfl (lv_at hl 0 rfl) ?_
  refine gv_iconst F dX1_init_91 ?_
  refine gv_newa F k112 hK hP hD hS hA 5 rfl (by decide) (Nat.le_of_ble_eq_true rfl) (Nat.le_of_ble_eq_true rfl) dX1_init_92 (fun q10 H hP hD hS => ?_)
  have hP : va_P D vwCl ((h0, .inr (1, [.ref (ar 0), .int (iI 0), .int (iI 0), .ref q2, .ref q3, .ref q4, .ref q5, .int (iI 0), .ref q6, .ref q7, .ref q8, .ref q9, .null, .null, .null])) :: (((((((((wRo cy ar (fun _ => 0) fz ++ [(q2, gA cy 8 (fun _ => 0))]) ++ [(q3, gA cy 8 (fun _ => 0))]) ++ [(q4, gA cy 8 (fun _ => 0))]) ++ [(q5, gA cy 8 (fun _ => 0))]) ++ [(q6, gA cy 5 (fun _ => 0))]) ++ [(q7, gA cy 5 (fun _ => 0))]) ++ [(q8, gA cy 5 (fun _ => 0))]) ++ [(q9, gA cy 5 (fun _ => 0))]) ++ [(q10, gA cy 5 (fun _ => 0))])) H := hP
  have hD : va_D A ((h0, .inr (1, [.ref (ar 0), .int (iI 0), .int (iI 0), .ref q2, .ref q3, .ref q4, .ref q5, .int (iI 0), .ref q6, .ref q7, .ref q8, .ref q9, .null, .null, .null])) :: (((((((((wRo cy ar (fun _ => 0) fz ++ [(q2, gA cy 8 (fun _ => 0))]) ++ [(q3, gA cy 8 (fun _ => 0))]) ++ [(q4, gA cy 8 (fun _ => 0))]) ++ [(q5, gA cy 8 (fun _ => 0))]) ++ [(q6, gA cy 5 (fun _ => 0))]) ++ [(q7, gA cy 5 (fun _ => 0))]) ++ [(q8, gA cy 5 (fun _ => 0))]) ++ [(q9, gA cy 5 (fun _ => 0))]) ++ [(q10, gA cy 5 (fun _ => 0))])) := hD
  refine W.widen (k := 12) (n := 157) (by omega) (by omega) ?_
  refine va_putF (D := D) (ci := 1) (v := .ref q10) (ty := (.array .int)) (C := RX1) (T := TX1) (N := 15) F.1 F.2.1 F.2.2.2.2 hin1 tyX1 tyX1_ok nmX1 F.2.2.2.1 hK hP hD hS 0 rfl rfl 12 (by decide) (F.2.2.2.2 _ k140) (fun _ h9 => h9) rfl hin rfl (by decide +kernel) rfl rfl (Nat.le_of_ble_eq_true rfl) dX1_init_94 (fun H locs hP hD hS => ?_)
  have hP : va_P D vwCl ((h0, .inr (1, [.ref (ar 0), .int (iI 0), .int (iI 0), .ref q2, .ref q3, .ref q4, .ref q5, .int (iI 0), .ref q6, .ref q7, .ref q8, .ref q9, .ref q10, .null, .null])) :: (((((((((wRo cy ar (fun _ => 0) fz ++ [(q2, gA cy 8 (fun _ => 0))]) ++ [(q3, gA cy 8 (fun _ => 0))]) ++ [(q4, gA cy 8 (fun _ => 0))]) ++ [(q5, gA cy 8 (fun _ => 0))]) ++ [(q6, gA cy 5 (fun _ => 0))]) ++ [(q7, gA cy 5 (fun _ => 0))]) ++ [(q8, gA cy 5 (fun _ => 0))]) ++ [(q9, gA cy 5 (fun _ => 0))]) ++ [(q10, gA cy 5 (fun _ => 0))])) H := hP
  have hD : va_D A ((h0, .inr (1, [.ref (ar 0), .int (iI 0), .int (iI 0), .ref q2, .ref q3, .ref q4, .ref q5, .int (iI 0), .ref q6, .ref q7, .ref q8, .ref q9, .ref q10, .null, .null])) :: (((((((((wRo cy ar (fun _ => 0) fz ++ [(q2, gA cy 8 (fun _ => 0))]) ++ [(q3, gA cy 8 (fun _ => 0))]) ++ [(q4, gA cy 8 (fun _ => 0))]) ++ [(q5, gA cy 8 (fun _ => 0))]) ++ [(q6, gA cy 5 (fun _ => 0))]) ++ [(q7, gA cy 5 (fun _ => 0))]) ++ [(q8, gA cy 5 (fun _ => 0))]) ++ [(q9, gA cy 5 (fun _ => 0))]) ++ [(q10, gA cy 5 (fun _ => 0))])) := hD
  refine lv_aload_n F.1 F.2.1 dX1_init_97 rfl (lv_at hl 0 rfl) ?_
  refine gv_bipush F ⟨by decide, by decide⟩ dX1_init_98 ?_
  refine gv_newa F k112 hK hP hD hS hA 40 rfl (by decide) (Nat.le_of_ble_eq_true rfl) (Nat.le_of_ble_eq_true rfl) dX1_init_100 (fun q11 H hP hD hS => ?_)
  have hP : va_P D vwCl ((h0, .inr (1, [.ref (ar 0), .int (iI 0), .int (iI 0), .ref q2, .ref q3, .ref q4, .ref q5, .int (iI 0), .ref q6, .ref q7, .ref q8, .ref q9, .ref q10, .null, .null])) :: ((((((((((wRo cy ar (fun _ => 0) fz ++ [(q2, gA cy 8 (fun _ => 0))]) ++ [(q3, gA cy 8 (fun _ => 0))]) ++ [(q4, gA cy 8 (fun _ => 0))]) ++ [(q5, gA cy 8 (fun _ => 0))]) ++ [(q6, gA cy 5 (fun _ => 0))]) ++ [(q7, gA cy 5 (fun _ => 0))]) ++ [(q8, gA cy 5 (fun _ => 0))]) ++ [(q9, gA cy 5 (fun _ => 0))]) ++ [(q10, gA cy 5 (fun _ => 0))]) ++ [(q11, gA cy 40 (fun _ => 0))])) H := hP
  have hD : va_D A ((h0, .inr (1, [.ref (ar 0), .int (iI 0), .int (iI 0), .ref q2, .ref q3, .ref q4, .ref q5, .int (iI 0), .ref q6, .ref q7, .ref q8, .ref q9, .ref q10, .null, .null])) :: ((((((((((wRo cy ar (fun _ => 0) fz ++ [(q2, gA cy 8 (fun _ => 0))]) ++ [(q3, gA cy 8 (fun _ => 0))]) ++ [(q4, gA cy 8 (fun _ => 0))]) ++ [(q5, gA cy 8 (fun _ => 0))]) ++ [(q6, gA cy 5 (fun _ => 0))]) ++ [(q7, gA cy 5 (fun _ => 0))]) ++ [(q8, gA cy 5 (fun _ => 0))]) ++ [(q9, gA cy 5 (fun _ => 0))]) ++ [(q10, gA cy 5 (fun _ => 0))]) ++ [(q11, gA cy 40 (fun _ => 0))])) := hD
  refine W.widen (k := 13) (n := 197) (by omega) (by omega) ?_
  refine va_putF (D := D) (ci := 1) (v := .ref q11) (ty := (.array .int)) (C := RX1) (T := TX1) (N := 15) F.1 F.2.1 F.2.2.2.2 hin1 tyX1 tyX1_ok nmX1 F.2.2.2.1 hK hP hD hS 0 rfl rfl 13 (by decide) (F.2.2.2.2 _ k142) (fun _ h9 => h9) rfl hin rfl (by decide +kernel) rfl rfl (Nat.le_of_ble_eq_true rfl) dX1_init_102 (fun H locs hP hD hS => ?_)
  have hP : va_P D vwCl ((h0, .inr (1, [.ref (ar 0), .int (iI 0), .int (iI 0), .ref q2, .ref q3, .ref q4, .ref q5, .int (iI 0), .ref q6, .ref q7, .ref q8, .ref q9, .ref q10, .ref q11, .null])) :: ((((((((((wRo cy ar (fun _ => 0) fz ++ [(q2, gA cy 8 (fun _ => 0))]) ++ [(q3, gA cy 8 (fun _ => 0))]) ++ [(q4, gA cy 8 (fun _ => 0))]) ++ [(q5, gA cy 8 (fun _ => 0))]) ++ [(q6, gA cy 5 (fun _ => 0))]) ++ [(q7, gA cy 5 (fun _ => 0))]) ++ [(q8, gA cy 5 (fun _ => 0))]) ++ [(q9, gA cy 5 (fun _ => 0))]) ++ [(q10, gA cy 5 (fun _ => 0))]) ++ [(q11, gA cy 40 (fun _ => 0))])) H := hP
  have hD : va_D A ((h0, .inr (1, [.ref (ar 0), .int (iI 0), .int (iI 0), .ref q2, .ref q3, .ref q4, .ref q5, .int (iI 0), .ref q6, .ref q7, .ref q8, .ref q9, .ref q10, .ref q11, .null])) :: ((((((((((wRo cy ar (fun _ => 0) fz ++ [(q2, gA cy 8 (fun _ => 0))]) ++ [(q3, gA cy 8 (fun _ => 0))]) ++ [(q4, gA cy 8 (fun _ => 0))]) ++ [(q5, gA cy 8 (fun _ => 0))]) ++ [(q6, gA cy 5 (fun _ => 0))]) ++ [(q7, gA cy 5 (fun _ => 0))]) ++ [(q8, gA cy 5 (fun _ => 0))]) ++ [(q9, gA cy 5 (fun _ => 0))]) ++ [(q10, gA cy 5 (fun _ => 0))]) ++ [(q11, gA cy 40 (fun _ => 0))])) := hD
  refine lv_aload_n F.1 F.2.1 dX1_init_105 rfl (lv_at hl 0 rfl) ?_
  refine gv_bipush F ⟨by decide, by decide⟩ dX1_init_106 ?_
  refine gv_newa F k112 hK hP hD hS hA 40 rfl (by decide) (Nat.le_of_ble_eq_true rfl) (Nat.le_of_ble_eq_true rfl) dX1_init_108 (fun q12 H hP hD hS => ?_)
  have hP : va_P D vwCl ((h0, .inr (1, [.ref (ar 0), .int (iI 0), .int (iI 0), .ref q2, .ref q3, .ref q4, .ref q5, .int (iI 0), .ref q6, .ref q7, .ref q8, .ref q9, .ref q10, .ref q11, .null])) :: (((((((((((wRo cy ar (fun _ => 0) fz ++ [(q2, gA cy 8 (fun _ => 0))]) ++ [(q3, gA cy 8 (fun _ => 0))]) ++ [(q4, gA cy 8 (fun _ => 0))]) ++ [(q5, gA cy 8 (fun _ => 0))]) ++ [(q6, gA cy 5 (fun _ => 0))]) ++ [(q7, gA cy 5 (fun _ => 0))]) ++ [(q8, gA cy 5 (fun _ => 0))]) ++ [(q9, gA cy 5 (fun _ => 0))]) ++ [(q10, gA cy 5 (fun _ => 0))]) ++ [(q11, gA cy 40 (fun _ => 0))]) ++ [(q12, gA cy 40 (fun _ => 0))])) H := hP
  have hD : va_D A ((h0, .inr (1, [.ref (ar 0), .int (iI 0), .int (iI 0), .ref q2, .ref q3, .ref q4, .ref q5, .int (iI 0), .ref q6, .ref q7, .ref q8, .ref q9, .ref q10, .ref q11, .null])) :: (((((((((((wRo cy ar (fun _ => 0) fz ++ [(q2, gA cy 8 (fun _ => 0))]) ++ [(q3, gA cy 8 (fun _ => 0))]) ++ [(q4, gA cy 8 (fun _ => 0))]) ++ [(q5, gA cy 8 (fun _ => 0))]) ++ [(q6, gA cy 5 (fun _ => 0))]) ++ [(q7, gA cy 5 (fun _ => 0))]) ++ [(q8, gA cy 5 (fun _ => 0))]) ++ [(q9, gA cy 5 (fun _ => 0))]) ++ [(q10, gA cy 5 (fun _ => 0))]) ++ [(q11, gA cy 40 (fun _ => 0))]) ++ [(q12, gA cy 40 (fun _ => 0))])) := hD
  refine W.widen (k := 14) (n := 237) (by omega) (by omega) ?_
  refine va_putF (D := D) (ci := 1) (v := .ref q12) (ty := (.array .int)) (C := RX1) (T := TX1) (N := 15) F.1 F.2.1 F.2.2.2.2 hin1 tyX1 tyX1_ok nmX1 F.2.2.2.1 hK hP hD hS 0 rfl rfl 14 (by decide) (F.2.2.2.2 _ k143) (fun _ h9 => h9) rfl hin rfl (by decide +kernel) rfl rfl (Nat.le_of_ble_eq_true rfl) dX1_init_110 (fun H locs hP hD hS => ?_)
  have hP : va_P D vwCl ((h0, .inr (1, [.ref (ar 0), .int (iI 0), .int (iI 0), .ref q2, .ref q3, .ref q4, .ref q5, .int (iI 0), .ref q6, .ref q7, .ref q8, .ref q9, .ref q10, .ref q11, .ref q12])) :: (((((((((((wRo cy ar (fun _ => 0) fz ++ [(q2, gA cy 8 (fun _ => 0))]) ++ [(q3, gA cy 8 (fun _ => 0))]) ++ [(q4, gA cy 8 (fun _ => 0))]) ++ [(q5, gA cy 8 (fun _ => 0))]) ++ [(q6, gA cy 5 (fun _ => 0))]) ++ [(q7, gA cy 5 (fun _ => 0))]) ++ [(q8, gA cy 5 (fun _ => 0))]) ++ [(q9, gA cy 5 (fun _ => 0))]) ++ [(q10, gA cy 5 (fun _ => 0))]) ++ [(q11, gA cy 40 (fun _ => 0))]) ++ [(q12, gA cy 40 (fun _ => 0))])) H := hP
  have hD : va_D A ((h0, .inr (1, [.ref (ar 0), .int (iI 0), .int (iI 0), .ref q2, .ref q3, .ref q4, .ref q5, .int (iI 0), .ref q6, .ref q7, .ref q8, .ref q9, .ref q10, .ref q11, .ref q12])) :: (((((((((((wRo cy ar (fun _ => 0) fz ++ [(q2, gA cy 8 (fun _ => 0))]) ++ [(q3, gA cy 8 (fun _ => 0))]) ++ [(q4, gA cy 8 (fun _ => 0))]) ++ [(q5, gA cy 8 (fun _ => 0))]) ++ [(q6, gA cy 5 (fun _ => 0))]) ++ [(q7, gA cy 5 (fun _ => 0))]) ++ [(q8, gA cy 5 (fun _ => 0))]) ++ [(q9, gA cy 5 (fun _ => 0))]) ++ [(q10, gA cy 5 (fun _ => 0))]) ++ [(q11, gA cy 40 (fun _ => 0))]) ++ [(q12, gA cy 40 (fun _ => 0))])) := hD
  obtain ⟨ad, ead⟩ : ∃ ad : Nat → Nat, ad = (fun k => match k with | 0 => h0 | 1 => ar 0 | 2 => ar 1 | 3 => ar 2 | 4 => q2 | 5 => q3 | 6 => q4 | 7 => q5 | 8 => q6 | 9 => q7 | 10 => q8 | 11 => q9 | 12 => q10 | 13 => q11 | _ => q12) := ⟨_, rfl⟩
  have hP : va_P D vwCl (wMu cy ad (m00 fz)) H := by subst ead; exact hP
  have hD : va_D A (wMu cy ad (m00 fz)) := by subst ead; exact hD
  have e0 : h0 = ad 0 := by subst ead; rfl
  have hl : lv_has ls 1 [(0, .ref (ad 0))] := by rw [← e0]; exact hl
  refine lv_aload_n F.1 F.2.1 dX1_init_113 rfl (lv_at hl 0 rfl) ?_
  refine gv_get F hin1 hK hP 0 rfl rfl 13 (by decide) k142 rfl dX1_init_114 ?_
  refine gv_bipush F ⟨by decide, by decide⟩ dX1_init_117 ?_
  refine gc_SV (As := [.ref (ad 13), .int (iI (-9))]) (wn := fun u : AR => wMu cy ad (uc (m00 fz) 13 u)) F hK hA hP hD hS (cp_mu_13 hP) (cd_mu_13 hD) (fun u H1 hk h1 _ => cj_mu_13 hP hD u H1 hk h1) (c_J7_fill l D cy (ad 13) 40 (by decide) ((m00 fz) 13) (-9)) (va_cwS 2 F.2.2.2.2 (gG_T k113 k114 k65 k115) rfl rfl rfl hd_J7_fill ⟨Nat.le_of_ble_eq_true rfl, Nat.le_of_ble_eq_true rfl⟩) dX1_init_119 rfl rfl hl.1 (Nat.le_of_ble_eq_true rfl) ⟨Nat.le_of_ble_eq_true rfl, Nat.le_of_ble_eq_true rfl⟩ (fun u H locs hu hP hD hS => ?_)
  try dsimp only at hP hD
  subst hu
  refine lv_aload_n F.1 F.2.1 dX1_init_122 rfl (lv_at hl 0 rfl) ?_
  refine gv_get F hin1 hK hP 0 rfl rfl 14 (by decide) k143 rfl dX1_init_123 ?_
  refine gv_bipush F ⟨by decide, by decide⟩ dX1_init_126 ?_
  refine gc_SV (As := [.ref (ad 14), .int (iI (-9))]) (wn := fun u : AR => wMu cy ad (uc (uc (m00 fz) 13 (fun _ => -9)) 14 u)) F hK hA hP hD hS (cp_mu_14 hP) (cd_mu_14 hD) (fun u H1 hk h1 _ => cj_mu_14 hP hD u H1 hk h1) (c_J7_fill l D cy (ad 14) 40 (by decide) ((uc (m00 fz) 13 (fun _ => -9)) 14) (-9)) (va_cwS 2 F.2.2.2.2 (gG_T k113 k114 k65 k115) rfl rfl rfl hd_J7_fill ⟨Nat.le_of_ble_eq_true rfl, Nat.le_of_ble_eq_true rfl⟩) dX1_init_128 rfl rfl hl.1 (Nat.le_of_ble_eq_true rfl) ⟨Nat.le_of_ble_eq_true rfl, Nat.le_of_ble_eq_true rfl⟩ (fun u H locs hu hP hD hS => ?_)
  try dsimp only at hP hD
  subst hu
  exact ret ad H locs 131 ls e0.symm hP hD hS dX1_init_131
theorem hd_X4_init : yX4_init.cls ≠ "java/lang/invoke/MethodHandle" ∧ yX4_init.cls ≠ "java/lang/invoke/VarHandle" ∧ (parseMethodDescriptor yX4_init.desc).map (fun d => d.parameters.length) = some 0 := by decide +kernel
abbrev rX4_init : Room := { frames := 1, cells := 9, slots := 714, locals := 20 }
set_option maxHeartbeats 4000000 in
set_option maxRecDepth 20000 in
theorem c_X4_init (l : Launch) (D : va_G) (cy : ClassId) (h0 : Nat) : MetN (S := Nat → Nat) l yX4_init (wT yX4_init cX4_init 1 none) rX4_init D cy [.ref h0] [(h0, .inr (4, [.null, .null, .null, .null, .int (iI 0), .null, .null, .null, .int (iI 0), .int (iI 0), .null, .int (iI 0), .null, .int (iI 0), .int (iI 0), .int (iI 0), .int (iI 0)]))] 9 714 (fun ad => wMd cy ad (fun _ => 0) (fun _ => 0) (fun _ => 0) (fun _ => 0) (fun _ => 0) (fun _ => 0) (fun _ => 0) (fun _ => 0) (fun _ => 0) (fun _ => 0)) (fun ad => ad 0 = h0) := by
  refine gI_N (by decide) (Nat.le_of_ble_eq_true rfl) rfl ?_
  intro p e s m args below meth c A Qg F hin hK hA ret H locs ls hl hP hD hS
  have F : CallFix p m c cX4_init 1 s args gT RX4 := F
  have hl : lv_has ls 1 [(0, .ref h0)] := hl
  refine lv_aload_n F.1 F.2.1 dX4_init_0 rfl (lv_at hl 0 rfl) ?_
  refine W.objInit F.1 F.2.1 F.2.2.2.1 (F.2.2.2.2 _ k755) (F.2.2.2.2 _ k80) (F.2.2.2.2 _ k81) rfl (by rw [F.2.2.1]; exact hl.1) rfl dX4_init_1 (Nat.le_of_ble_eq_true rfl) (Nat.le_of_ble_eq_true rfl) ?_
  refine W.eq (g2 := F0 m 4 ls []) rfl ?_
  refine lv_aload_n F.1 F.2.1 dX4_init_4 rfl (lv_at hl 0 rfl) ?_
  refine gv_sipush F ⟨by decide, by decide⟩ dX4_init_5 ?_
  refine gv_newa F k112 hK hP hD hS hA 147 rfl (by decide) (Nat.le_of_ble_eq_true rfl) (Nat.le_of_ble_eq_true rfl) dX4_init_8 (fun q1 H hP hD hS => ?_)
  have hP : va_P D vwCl ((h0, .inr (4, [.null, .null, .null, .null, .int (iI 0), .null, .null, .null, .int (iI 0), .int (iI 0), .null, .int (iI 0), .null, .int (iI 0), .int (iI 0), .int (iI 0), .int (iI 0)])) :: [(q1, gA cy 147 (fun _ => 0))]) H := hP
  have hD : va_D A ((h0, .inr (4, [.null, .null, .null, .null, .int (iI 0), .null, .null, .null, .int (iI 0), .int (iI 0), .null, .int (iI 0), .null, .int (iI 0), .int (iI 0), .int (iI 0), .int (iI 0)])) :: [(q1, gA cy 147 (fun _ => 0))]) := hD
  refine W.widen (k := 1) (n := 147) (by omega) (by omega) ?_
  refine va_putF (D := D) (ci := 4) (v := .ref q1) (ty := (.array .int)) (C := RX4) (T := TX4) (N := 17) F.1 F.2.1 F.2.2.2.2 hin4 tyX4 tyX4_ok nmX4 F.2.2.2.1 hK hP hD hS 0 rfl rfl 0 (by decide) (F.2.2.2.2 _ k756) (fun _ h9 => h9) rfl hin rfl (by decide +kernel) rfl rfl (Nat.le_of_ble_eq_true rfl) dX4_init_10 (fun H locs hP hD hS => ?_)
  have hP : va_P D vwCl ((h0, .inr (4, [.ref q1, .null, .null, .null, .int (iI 0), .null, .null, .null, .int (iI 0), .int (iI 0), .null, .int (iI 0), .null, .int (iI 0), .int (iI 0), .int (iI 0), .int (iI 0)])) :: [(q1, gA cy 147 (fun _ => 0))]) H := hP
  have hD : va_D A ((h0, .inr (4, [.ref q1, .null, .null, .null, .int (iI 0), .null, .null, .null, .int (iI 0), .int (iI 0), .null, .int (iI 0), .null, .int (iI 0), .int (iI 0), .int (iI 0), .int (iI 0)])) :: [(q1, gA cy 147 (fun _ => 0))]) := hD
  refine lv_aload_n F.1 F.2.1 dX4_init_13 rfl (lv_at hl 0 rfl) ?_
  refine gv_sipush F ⟨by decide, by decide⟩ dX4_init_14 ?_
  refine gv_newa F k112 hK hP hD hS hA 147 rfl (by decide) (Nat.le_of_ble_eq_true rfl) (Nat.le_of_ble_eq_true rfl) dX4_init_17 (fun q2 H hP hD hS => ?_)
  have hP : va_P D vwCl ((h0, .inr (4, [.ref q1, .null, .null, .null, .int (iI 0), .null, .null, .null, .int (iI 0), .int (iI 0), .null, .int (iI 0), .null, .int (iI 0), .int (iI 0), .int (iI 0), .int (iI 0)])) :: ([(q1, gA cy 147 (fun _ => 0))] ++ [(q2, gA cy 147 (fun _ => 0))])) H := hP
  have hD : va_D A ((h0, .inr (4, [.ref q1, .null, .null, .null, .int (iI 0), .null, .null, .null, .int (iI 0), .int (iI 0), .null, .int (iI 0), .null, .int (iI 0), .int (iI 0), .int (iI 0), .int (iI 0)])) :: ([(q1, gA cy 147 (fun _ => 0))] ++ [(q2, gA cy 147 (fun _ => 0))])) := hD
  refine W.widen (k := 2) (n := 294) (by omega) (by omega) ?_
  refine va_putF (D := D) (ci := 4) (v := .ref q2) (ty := (.array .int)) (C := RX4) (T := TX4) (N := 17) F.1 F.2.1 F.2.2.2.2 hin4 tyX4 tyX4_ok nmX4 F.2.2.2.1 hK hP hD hS 0 rfl rfl 1 (by decide) (F.2.2.2.2 _ k757) (fun _ h9 => h9) rfl hin rfl (by decide +kernel) rfl rfl (Nat.le_of_ble_eq_true rfl) dX4_init_19 (fun H locs hP hD hS => ?_)
  have hP : va_P D vwCl ((h0, .inr (4, [.ref q1, .ref q2, .null, .null, .int (iI 0), .null, .null, .null, .int (iI 0), .int (iI 0), .null, .int (iI 0), .null, .int (iI 0), .int (iI 0), .int (iI 0), .int (iI 0)])) :: ([(q1, gA cy 147 (fun _ => 0))] ++ [(q2, gA cy 147 (fun _ => 0))])) H := hP
  have hD : va_D A ((h0, .inr (4, [.ref q1, .ref q2, .null, .null, .int (iI 0), .null, .null, .null, .int (iI 0), .int (iI 0), .null, .int (iI 0), .null, .int (iI 0), .int (iI 0), .int (iI 0), .int (iI 0)])) :: ([(q1, gA cy 147 (fun _ => 0))] ++ [(q2, gA cy 147 (fun _ => 0))])) := hD
  refine lv_aload_n F.1 F.2.1 dX4_init_22 rfl (lv_at hl 0 rfl) ?_
  refine gv_sipush F ⟨by decide, by decide⟩ dX4_init_23 ?_
  refine gv_newa F k112 hK hP hD hS hA 147 rfl (by decide) (Nat.le_of_ble_eq_true rfl) (Nat.le_of_ble_eq_true rfl) dX4_init_26 (fun q3 H hP hD hS => ?_)
  have hP : va_P D vwCl ((h0, .inr (4, [.ref q1, .ref q2, .null, .null, .int (iI 0), .null, .null, .null, .int (iI 0), .int (iI 0), .null, .int (iI 0), .null, .int (iI 0), .int (iI 0), .int (iI 0), .int (iI 0)])) :: (([(q1, gA cy 147 (fun _ => 0))] ++ [(q2, gA cy 147 (fun _ => 0))]) ++ [(q3, gA cy 147 (fun _ => 0))])) H := hP
  have hD : va_D A ((h0, .inr (4, [.ref q1, .ref q2, .null, .null, .int (iI 0), .null, .null, .null, .int (iI 0), .int (iI 0), .null, .int (iI 0), .null, .int (iI 0), .int (iI 0), .int (iI 0), .int (iI 0)])) :: (([(q1, gA cy 147 (fun _ => 0))] ++ [(q2, gA cy 147 (fun _ => 0))]) ++ [(q3, gA cy 147 (fun _ => 0))])) := hD
  refine W.widen (k := 3) (n := 441) (by omega) (by omega) ?_
  refine va_putF (D := D) (ci := 4) (v := .ref q3) (ty := (.array .int)) (C := RX4) (T := TX4) (N := 17) F.1 F.2.1 F.2.2.2.2 hin4 tyX4 tyX4_ok nmX4 F.2.2.2.1 hK hP hD hS 0 rfl rfl 2 (by decide) (F.2.2.2.2 _ k758) (fun _ h9 => h9) rfl hin rfl (by decide +kernel) rfl rfl (Nat.le_of_ble_eq_true rfl) dX4_init_28 (fun H locs hP hD hS => ?_)
  have hP : va_P D vwCl ((h0, .inr (4, [.ref q1, .ref q2, .ref q3, .null, .int (iI 0), .null, .null, .null, .int (iI 0), .int (iI 0), .null, .int (iI 0), .null, .int (iI 0), .int (iI 0), .int (iI 0), .int (iI 0)])) :: (([(q1, gA cy 147 (fun _ => 0))] ++ [(q2, gA cy 147 (fun _ => 0))]) ++ [(q3, gA cy 147 (fun _ => 0))])) H := hP
  have hD : va_D A ((h0, .inr (4, [.ref q1, .ref q2, .ref q3, .null, .int (iI 0), .null, .null, .null, .int (iI 0), .int (iI 0), .null, .int (iI 0), .null, .int (iI 0), .int (iI 0), .int (iI 0), .int (iI 0)])) :: (([(q1, gA cy 147 (fun _ => 0))] ++ [(q2, gA cy 147 (fun _ => 0))]) ++ [(q3, gA cy 147 (fun _ => 0))])) := hD
  refine lv_aload_n F.1 F.2.1 dX4_init_31 rfl (lv_at hl 0 rfl) ?_
  refine gv_sipush F ⟨by decide, by decide⟩ dX4_init_32 ?_
  refine gv_newa F k112 hK hP hD hS hA 147 rfl (by decide) (Nat.le_of_ble_eq_true rfl) (Nat.le_of_ble_eq_true rfl) dX4_init_35 (fun q4 H hP hD hS => ?_)
  have hP : va_P D vwCl ((h0, .inr (4, [.ref q1, .ref q2, .ref q3, .null, .int (iI 0), .null, .null, .null, .int (iI 0), .int (iI 0), .null, .int (iI 0), .null, .int (iI 0), .int (iI 0), .int (iI 0), .int (iI 0)])) :: ((([(q1, gA cy 147 (fun _ => 0))] ++ [(q2, gA cy 147 (fun _ => 0))]) ++ [(q3, gA cy 147 (fun _ => 0))]) ++ [(q4, gA cy 147 (fun _ => 0))])) H := hP
  have hD : va_D A ((h0, .inr (4, [.ref q1, .ref q2, .ref q3, .null, .int (iI 0), .null, .null, .null, .int (iI 0), .int (iI 0), .null, .int (iI 0), .null, .int (iI 0), .int (iI 0), .int (iI 0), .int (iI 0)])) :: ((([(q1, gA cy 147 (fun _ => 0))] ++ [(q2, gA cy 147 (fun _ => 0))]) ++ [(q3, gA cy 147 (fun _ => 0))]) ++ [(q4, gA cy 147 (fun _ => 0))])) := hD
  refine W.widen (k := 4) (n := 588) (by omega) (by omega) ?_
  refine va_putF (D := D) (ci := 4) (v := .ref q4) (ty := (.array .int)) (C := RX4) (T := TX4) (N := 17) F.1 F.2.1 F.2.2.2.2 hin4 tyX4 tyX4_ok nmX4 F.2.2.2.1 hK hP hD hS 0 rfl rfl 3 (by decide) (F.2.2.2.2 _ k759) (fun _ h9 => h9) rfl hin rfl (by decide +kernel) rfl rfl (Nat.le_of_ble_eq_true rfl) dX4_init_37 (fun H locs hP hD hS => ?_)
  have hP : va_P D vwCl ((h0, .inr (4, [.ref q1, .ref q2, .ref q3, .ref q4, .int (iI 0), .null, .null, .null, .int (iI 0), .int (iI 0), .null, .int (iI 0), .null, .int (iI 0), .int (iI 0), .int (iI 0), .int (iI 0)])) :: ((([(q1, gA cy 147 (fun _ => 0))] ++ [(q2, gA cy 147 (fun _ => 0))]) ++ [(q3, gA cy 147 (fun _ => 0))]) ++ [(q4, gA cy 147 (fun _ => 0))])) H := hP
  have hD : va_D A ((h0, .inr (4, [.ref q1, .ref q2, .ref q3, .ref q4, .int (iI 0), .null, .null, .null, .int (iI 0), .int (iI 0), .null, .int (iI 0), .null, .int (iI 0), .int (iI 0), .int (iI 0), .int (iI 0)])) :: ((([(q1, gA cy 147 (fun _ => 0))] ++ [(q2, gA cy 147 (fun _ => 0))]) ++ [(q3, gA cy 147 (fun _ => 0))]) ++ [(q4, gA cy 147 (fun _ => 0))])) := hD
  refine lv_aload_n F.1 F.2.1 dX4_init_40 rfl (lv_at hl 0 rfl) ?_
  refine gv_bipush F ⟨by decide, by decide⟩ dX4_init_41 ?_
  refine gv_newa F k112 hK hP hD hS hA 96 rfl (by decide) (Nat.le_of_ble_eq_true rfl) (Nat.le_of_ble_eq_true rfl) dX4_init_43 (fun q5 H hP hD hS => ?_)
  have hP : va_P D vwCl ((h0, .inr (4, [.ref q1, .ref q2, .ref q3, .ref q4, .int (iI 0), .null, .null, .null, .int (iI 0), .int (iI 0), .null, .int (iI 0), .null, .int (iI 0), .int (iI 0), .int (iI 0), .int (iI 0)])) :: (((([(q1, gA cy 147 (fun _ => 0))] ++ [(q2, gA cy 147 (fun _ => 0))]) ++ [(q3, gA cy 147 (fun _ => 0))]) ++ [(q4, gA cy 147 (fun _ => 0))]) ++ [(q5, gA cy 96 (fun _ => 0))])) H := hP
  have hD : va_D A ((h0, .inr (4, [.ref q1, .ref q2, .ref q3, .ref q4, .int (iI 0), .null, .null, .null, .int (iI 0), .int (iI 0), .null, .int (iI 0), .null, .int (iI 0), .int (iI 0), .int (iI 0), .int (iI 0)])) :: (((([(q1, gA cy 147 (fun _ => 0))] ++ [(q2, gA cy 147 (fun _ => 0))]) ++ [(q3, gA cy 147 (fun _ => 0))]) ++ [(q4, gA cy 147 (fun _ => 0))]) ++ [(q5, gA cy 96 (fun _ => 0))])) := hD
  refine W.widen (k := 5) (n := 684) (by omega) (by omega) ?_
  refine va_putF (D := D) (ci := 4) (v := .ref q5) (ty := (.array .int)) (C := RX4) (T := TX4) (N := 17) F.1 F.2.1 F.2.2.2.2 hin4 tyX4 tyX4_ok nmX4 F.2.2.2.1 hK hP hD hS 0 rfl rfl 5 (by decide) (F.2.2.2.2 _ k761) (fun _ h9 => h9) rfl hin rfl (by decide +kernel) rfl rfl (Nat.le_of_ble_eq_true rfl) dX4_init_45 (fun H locs hP hD hS => ?_)
  have hP : va_P D vwCl ((h0, .inr (4, [.ref q1, .ref q2, .ref q3, .ref q4, .int (iI 0), .ref q5, .null, .null, .int (iI 0), .int (iI 0), .null, .int (iI 0), .null, .int (iI 0), .int (iI 0), .int (iI 0), .int (iI 0)])) :: (((([(q1, gA cy 147 (fun _ => 0))] ++ [(q2, gA cy 147 (fun _ => 0))]) ++ [(q3, gA cy 147 (fun _ => 0))]) ++ [(q4, gA cy 147 (fun _ => 0))]) ++ [(q5, gA cy 96 (fun _ => 0))])) H := hP
  have hD : va_D A ((h0, .inr (4, [.ref q1, .ref q2, .ref q3, .ref q4, .int (iI 0), .ref q5, .null, .null, .int (iI 0), .int (iI 0), .null, .int (iI 0), .null, .int (iI 0), .int (iI 0), .int (iI 0), .int (iI 0)])) :: (((([(q1, gA cy 147 (fun _ => 0))] ++ [(q2, gA cy 147 (fun _ => 0))]) ++ [(q3, gA cy 147 (fun _ => 0))]) ++ [(q4, gA cy 147 (fun _ => 0))]) ++ [(q5, gA cy 96 (fun _ => 0))])) := hD
  refine lv_aload_n F.1 F.2.1 dX4_init_48 rfl (lv_at hl 0 rfl) ?_
  refine gv_bipush F ⟨by decide, by decide⟩ dX4_init_49 ?_
  refine gv_newa F k112 hK hP hD hS hA 12 rfl (by decide) (Nat.le_of_ble_eq_true rfl) (Nat.le_of_ble_eq_true rfl) dX4_init_51 (fun q6 H hP hD hS => ?_)
  have hP : va_P D vwCl ((h0, .inr (4, [.ref q1, .ref q2, .ref q3, .ref q4, .int (iI 0), .ref q5, .null, .null, .int (iI 0), .int (iI 0), .null, .int (iI 0), .null, .int (iI 0), .int (iI 0), .int (iI 0), .int (iI 0)])) :: ((((([(q1, gA cy 147 (fun _ => 0))] ++ [(q2, gA cy 147 (fun _ => 0))]) ++ [(q3, gA cy 147 (fun _ => 0))]) ++ [(q4, gA cy 147 (fun _ => 0))]) ++ [(q5, gA cy 96 (fun _ => 0))]) ++ [(q6, gA cy 12 (fun _ => 0))])) H := hP
  have hD : va_D A ((h0, .inr (4, [.ref q1, .ref q2, .ref q3, .ref q4, .int (iI 0), .ref q5, .null, .null, .int (iI 0), .int (iI 0), .null, .int (iI 0), .null, .int (iI 0), .int (iI 0), .int (iI 0), .int (iI 0)])) :: ((((([(q1, gA cy 147 (fun _ => 0))] ++ [(q2, gA cy 147 (fun _ => 0))]) ++ [(q3, gA cy 147 (fun _ => 0))]) ++ [(q4, gA cy 147 (fun _ => 0))]) ++ [(q5, gA cy 96 (fun _ => 0))]) ++ [(q6, gA cy 12 (fun _ => 0))])) := hD
  refine W.widen (k := 6) (n := 696) (by omega) (by omega) ?_
  refine va_putF (D := D) (ci := 4) (v := .ref q6) (ty := (.array .int)) (C := RX4) (T := TX4) (N := 17) F.1 F.2.1 F.2.2.2.2 hin4 tyX4 tyX4_ok nmX4 F.2.2.2.1 hK hP hD hS 0 rfl rfl 6 (by decide) (F.2.2.2.2 _ k762) (fun _ h9 => h9) rfl hin rfl (by decide +kernel) rfl rfl (Nat.le_of_ble_eq_true rfl) dX4_init_53 (fun H locs hP hD hS => ?_)
  have hP : va_P D vwCl ((h0, .inr (4, [.ref q1, .ref q2, .ref q3, .ref q4, .int (iI 0), .ref q5, .ref q6, .null, .int (iI 0), .int (iI 0), .null, .int (iI 0), .null, .int (iI 0), .int (iI 0), .int (iI 0), .int (iI 0)])) :: ((((([(q1, gA cy 147 (fun _ => 0))] ++ [(q2, gA cy 147 (fun _ => 0))]) ++ [(q3, gA cy 147 (fun _ => 0))]) ++ [(q4, gA cy 147 (fun _ => 0))]) ++ [(q5, gA cy 96 (fun _ => 0))]) ++ [(q6, gA cy 12 (fun _ => 0))])) H := hP
  have hD : va_D A ((h0, .inr (4, [.ref q1, .ref q2, .ref q3, .ref q4, .int (iI 0), .ref q5, .ref q6, .null, .int (iI 0), .int (iI 0), .null, .int (iI 0), .null, .int (iI 0), .int (iI 0), .int (iI 0), .int (iI 0)])) :: ((((([(q1, gA cy 147 (fun _ => 0))] ++ [(q2, gA cy 147 (fun _ => 0))]) ++ [(q3, gA cy 147 (fun _ => 0))]) ++ [(q4, gA cy 147 (fun _ => 0))]) ++ [(q5, gA cy 96 (fun _ => 0))]) ++ [(q6, gA cy 12 (fun _ => 0))])) := hD
  refine lv_aload_n F.1 F.2.1 dX4_init_56 rfl (lv_at hl 0 rfl) ?_
  refine gv_bipush F ⟨by decide, by decide⟩ dX4_init_57 ?_
  refine gv_newa F k112 hK hP hD hS hA 7 rfl (by decide) (Nat.le_of_ble_eq_true rfl) (Nat.le_of_ble_eq_true rfl) dX4_init_59 (fun q7 H hP hD hS => ?_)
  have hP : va_P D vwCl ((h0, .inr (4, [.ref q1, .ref q2, .ref q3, .ref q4, .int (iI 0), .ref q5, .ref q6, .null, .int (iI 0), .int (iI 0), .null, .int (iI 0), .null, .int (iI 0), .int (iI 0), .int (iI 0), .int (iI 0)])) :: (((((([(q1, gA cy 147 (fun _ => 0))] ++ [(q2, gA cy 147 (fun _ => 0))]) ++ [(q3, gA cy 147 (fun _ => 0))]) ++ [(q4, gA cy 147 (fun _ => 0))]) ++ [(q5, gA cy 96 (fun _ => 0))]) ++ [(q6, gA cy 12 (fun _ => 0))]) ++ [(q7, gA cy 7 (fun _ => 0))])) H := hP
  have hD : va_D A ((h0, .inr (4, [.ref q1, .ref q2, .ref q3, .ref q4, .int (iI 0), .ref q5, .ref q6, .null, .int (iI 0), .int (iI 0), .null, .int (iI 0), .null, .int (iI 0), .int (iI 0), .int (iI 0), .int (iI 0)])) :: (((((([(q1, gA cy 147 (fun _ => 0))] ++ [(q2, gA cy 147 (fun _ => 0))]) ++ [(q3, gA cy 147 (fun _ => 0))]) ++ [(q4, gA cy 147 (fun _ => 0))]) ++ [(q5, gA cy 96 (fun _ => 0))]) ++ [(q6, gA cy 12 (fun _ => 0))]) ++ [(q7, gA cy 7 (fun _ => 0))])) := hD
  refine W.widen (k := 7) (n := 703) (by omega) (by omega) ?_
  refine va_putF (D := D) (ci := 4) (v := .ref q7) (ty := (.array .int)) (C := RX4) (T := TX4) (N := 17) F.1 F.2.1 F.2.2.2.2 hin4 tyX4 tyX4_ok nmX4 F.2.2.2.1 hK hP hD hS 0 rfl rfl 7 (by decide) (F.2.2.2.2 _ k763) (fun _ h9 => h9) rfl hin rfl (by decide +kernel) rfl rfl (Nat.le_of_ble_eq_true rfl) dX4_init_61 (fun H locs hP hD hS => ?_)
  have hP : va_P D vwCl ((h0, .inr (4, [.ref q1, .ref q2, .ref q3, .ref q4, .int (iI 0), .ref q5, .ref q6, .ref q7, .int (iI 0), .int (iI 0), .null, .int (iI 0), .null, .int (iI 0), .int (iI 0), .int (iI 0), .int (iI 0)])) :: (((((([(q1, gA cy 147 (fun _ => 0))] ++ [(q2, gA cy 147 (fun _ => 0))]) ++ [(q3, gA cy 147 (fun _ => 0))]) ++ [(q4, gA cy 147 (fun _ => 0))]) ++ [(q5, gA cy 96 (fun _ => 0))]) ++ [(q6, gA cy 12 (fun _ => 0))]) ++ [(q7, gA cy 7 (fun _ => 0))])) H := hP
  have hD : va_D A ((h0, .inr (4, [.ref q1, .ref q2, .ref q3, .ref q4, .int (iI 0), .ref q5, .ref q6, .ref q7, .int (iI 0), .int (iI 0), .null, .int (iI 0), .null, .int (iI 0), .int (iI 0), .int (iI 0), .int (iI 0)])) :: (((((([(q1, gA cy 147 (fun _ => 0))] ++ [(q2, gA cy 147 (fun _ => 0))]) ++ [(q3, gA cy 147 (fun _ => 0))]) ++ [(q4, gA cy 147 (fun _ => 0))]) ++ [(q5, gA cy 96 (fun _ => 0))]) ++ [(q6, gA cy 12 (fun _ => 0))]) ++ [(q7, gA cy 7 (fun _ => 0))])) := hD
  refine lv_aload_n F.1 F.2.1 dX4_init_64 rfl (lv_at hl 0 rfl) ?_
  refine gv_bipush F ⟨by decide, by decide⟩ dX4_init_65 ?_
  refine gv_newa F k112 hK hP hD hS hA 7 rfl (by decide) (Nat.le_of_ble_eq_true rfl) (Nat.le_of_ble_eq_true rfl) dX4_init_67 (fun q8 H hP hD hS => ?_)
  have hP : va_P D vwCl ((h0, .inr (4, [.ref q1, .ref q2, .ref q3, .ref q4, .int (iI 0), .ref q5, .ref q6, .ref q7, .int (iI 0), .int (iI 0), .null, .int (iI 0), .null, .int (iI 0), .int (iI 0), .int (iI 0), .int (iI 0)])) :: ((((((([(q1, gA cy 147 (fun _ => 0))] ++ [(q2, gA cy 147 (fun _ => 0))]) ++ [(q3, gA cy 147 (fun _ => 0))]) ++ [(q4, gA cy 147 (fun _ => 0))]) ++ [(q5, gA cy 96 (fun _ => 0))]) ++ [(q6, gA cy 12 (fun _ => 0))]) ++ [(q7, gA cy 7 (fun _ => 0))]) ++ [(q8, gA cy 7 (fun _ => 0))])) H := hP
  have hD : va_D A ((h0, .inr (4, [.ref q1, .ref q2, .ref q3, .ref q4, .int (iI 0), .ref q5, .ref q6, .ref q7, .int (iI 0), .int (iI 0), .null, .int (iI 0), .null, .int (iI 0), .int (iI 0), .int (iI 0), .int (iI 0)])) :: ((((((([(q1, gA cy 147 (fun _ => 0))] ++ [(q2, gA cy 147 (fun _ => 0))]) ++ [(q3, gA cy 147 (fun _ => 0))]) ++ [(q4, gA cy 147 (fun _ => 0))]) ++ [(q5, gA cy 96 (fun _ => 0))]) ++ [(q6, gA cy 12 (fun _ => 0))]) ++ [(q7, gA cy 7 (fun _ => 0))]) ++ [(q8, gA cy 7 (fun _ => 0))])) := hD
  refine W.widen (k := 8) (n := 710) (by omega) (by omega) ?_
  refine va_putF (D := D) (ci := 4) (v := .ref q8) (ty := (.array .int)) (C := RX4) (T := TX4) (N := 17) F.1 F.2.1 F.2.2.2.2 hin4 tyX4 tyX4_ok nmX4 F.2.2.2.1 hK hP hD hS 0 rfl rfl 10 (by decide) (F.2.2.2.2 _ k766) (fun _ h9 => h9) rfl hin rfl (by decide +kernel) rfl rfl (Nat.le_of_ble_eq_true rfl) dX4_init_69 (fun H locs hP hD hS => ?_)
  have hP : va_P D vwCl ((h0, .inr (4, [.ref q1, .ref q2, .ref q3, .ref q4, .int (iI 0), .ref q5, .ref q6, .ref q7, .int (iI 0), .int (iI 0), .ref q8, .int (iI 0), .null, .int (iI 0), .int (iI 0), .int (iI 0), .int (iI 0)])) :: ((((((([(q1, gA cy 147 (fun _ => 0))] ++ [(q2, gA cy 147 (fun _ => 0))]) ++ [(q3, gA cy 147 (fun _ => 0))]) ++ [(q4, gA cy 147 (fun _ => 0))]) ++ [(q5, gA cy 96 (fun _ => 0))]) ++ [(q6, gA cy 12 (fun _ => 0))]) ++ [(q7, gA cy 7 (fun _ => 0))]) ++ [(q8, gA cy 7 (fun _ => 0))])) H := hP
  have hD : va_D A ((h0, .inr (4, [.ref q1, .ref q2, .ref q3, .ref q4, .int (iI 0), .ref q5, .ref q6, .ref q7, .int (iI 0), .int (iI 0), .ref q8, .int (iI 0), .null, .int (iI 0), .int (iI 0), .int (iI 0), .int (iI 0)])) :: ((((((([(q1, gA cy 147 (fun _ => 0))] ++ [(q2, gA cy 147 (fun _ => 0))]) ++ [(q3, gA cy 147 (fun _ => 0))]) ++ [(q4, gA cy 147 (fun _ => 0))]) ++ [(q5, gA cy 96 (fun _ => 0))]) ++ [(q6, gA cy 12 (fun _ => 0))]) ++ [(q7, gA cy 7 (fun _ => 0))]) ++ [(q8, gA cy 7 (fun _ => 0))])) := hD
  refine lv_aload_n F.1 F.2.1 dX4_init_72 rfl (lv_at hl 0 rfl) ?_
  refine gv_iconst F dX4_init_73 ?_
  refine gv_newa F k112 hK hP hD hS hA 4 rfl (by decide) (Nat.le_of_ble_eq_true rfl) (Nat.le_of_ble_eq_true rfl) dX4_init_74 (fun q9 H hP hD hS => ?_)
  have hP : va_P D vwCl ((h0, .inr (4, [.ref q1, .ref q2, .ref q3, .ref q4, .int (iI 0), .ref q5, .ref q6, .ref q7, .int (iI 0), .int (iI 0), .ref q8, .int (iI 0), .null, .int (iI 0), .int (iI 0), .int (iI 0), .int (iI 0)])) :: (((((((([(q1, gA cy 147 (fun _ => 0))] ++ [(q2, gA cy 147 (fun _ => 0))]) ++ [(q3, gA cy 147 (fun _ => 0))]) ++ [(q4, gA cy 147 (fun _ => 0))]) ++ [(q5, gA cy 96 (fun _ => 0))]) ++ [(q6, gA cy 12 (fun _ => 0))]) ++ [(q7, gA cy 7 (fun _ => 0))]) ++ [(q8, gA cy 7 (fun _ => 0))]) ++ [(q9, gA cy 4 (fun _ => 0))])) H := hP
  have hD : va_D A ((h0, .inr (4, [.ref q1, .ref q2, .ref q3, .ref q4, .int (iI 0), .ref q5, .ref q6, .ref q7, .int (iI 0), .int (iI 0), .ref q8, .int (iI 0), .null, .int (iI 0), .int (iI 0), .int (iI 0), .int (iI 0)])) :: (((((((([(q1, gA cy 147 (fun _ => 0))] ++ [(q2, gA cy 147 (fun _ => 0))]) ++ [(q3, gA cy 147 (fun _ => 0))]) ++ [(q4, gA cy 147 (fun _ => 0))]) ++ [(q5, gA cy 96 (fun _ => 0))]) ++ [(q6, gA cy 12 (fun _ => 0))]) ++ [(q7, gA cy 7 (fun _ => 0))]) ++ [(q8, gA cy 7 (fun _ => 0))]) ++ [(q9, gA cy 4 (fun _ => 0))])) := hD
  refine W.widen (k := 9) (n := 714) (by omega) (by omega) ?_
  refine va_putF (D := D) (ci := 4) (v := .ref q9) (ty := (.array .int)) (C := RX4) (T := TX4) (N := 17) F.1 F.2.1 F.2.2.2.2 hin4 tyX4 tyX4_ok nmX4 F.2.2.2.1 hK hP hD hS 0 rfl rfl 12 (by decide) (F.2.2.2.2 _ k768) (fun _ h9 => h9) rfl hin rfl (by decide +kernel) rfl rfl (Nat.le_of_ble_eq_true rfl) dX4_init_76 (fun H locs hP hD hS => ?_)
  have hP : va_P D vwCl ((h0, .inr (4, [.ref q1, .ref q2, .ref q3, .ref q4, .int (iI 0), .ref q5, .ref q6, .ref q7, .int (iI 0), .int (iI 0), .ref q8, .int (iI 0), .ref q9, .int (iI 0), .int (iI 0), .int (iI 0), .int (iI 0)])) :: (((((((([(q1, gA cy 147 (fun _ => 0))] ++ [(q2, gA cy 147 (fun _ => 0))]) ++ [(q3, gA cy 147 (fun _ => 0))]) ++ [(q4, gA cy 147 (fun _ => 0))]) ++ [(q5, gA cy 96 (fun _ => 0))]) ++ [(q6, gA cy 12 (fun _ => 0))]) ++ [(q7, gA cy 7 (fun _ => 0))]) ++ [(q8, gA cy 7 (fun _ => 0))]) ++ [(q9, gA cy 4 (fun _ => 0))])) H := hP
  have hD : va_D A ((h0, .inr (4, [.ref q1, .ref q2, .ref q3, .ref q4, .int (iI 0), .ref q5, .ref q6, .ref q7, .int (iI 0), .int (iI 0), .ref q8, .int (iI 0), .ref q9, .int (iI 0), .int (iI 0), .int (iI 0), .int (iI 0)])) :: (((((((([(q1, gA cy 147 (fun _ => 0))] ++ [(q2, gA cy 147 (fun _ => 0))]) ++ [(q3, gA cy 147 (fun _ => 0))]) ++ [(q4, gA cy 147 (fun _ => 0))]) ++ [(q5, gA cy 96 (fun _ => 0))]) ++ [(q6, gA cy 12 (fun _ => 0))]) ++ [(q7, gA cy 7 (fun _ => 0))]) ++ [(q8, gA cy 7 (fun _ => 0))]) ++ [(q9, gA cy 4 (fun _ => 0))])) := hD
  exact ret (fun k => match k with | 0 => h0 | 1 => q1 | 2 => q2 | 3 => q3 | 4 => q4 | 5 => q5 | 6 => q6 | 7 => q7 | 8 => q8 | _ => q9) H locs 79 ls rfl hP hD hS dX4_init_79
def gNest : Cond := .methodLinkNest RX3 31 yX0_init RX3
def gPreN (D : va_G) (cy : ClassId) (sz : Nat) (B : va_W) (U : State) : Prop := gPre D cy sz B U ∧ va_Nw gNest U
def MetX {S : Type} (l : Launch) (y : MethodName) (ws : List Cond) (rm : Room) (D : va_G) (cy : ClassId) (av : List Value) (B : va_W) (nc ns : Nat) (B' : S → va_W) (Q : S → Prop) : Prop :=
  ∀ sz : Nat, Met l y ws rm (va_Pc av (gPreN D cy sz B)) (va_Qv Q (fun u t => gPo D (va_A B sz) (B' u) t) (va_A B sz)) nc ns (va_A B sz)
theorem gPreN_blind {D : va_G} {cy : ClassId} {sz : Nat} {B : va_W} {av : List Value} : FrameBlind (va_Pc av (gPreN D cy sz B)) := fun a U g mk q => by
  obtain ⟨q0, ⟨q1, qP, qK, qD⟩, qN⟩ := q
  exact ⟨q0, ⟨q1, qP, va_K.moved (u := U) (U := U.calling g mk a) (Vm.Alike.refl U.vm) qK, qD⟩, va_Nw.same (u := U) (U := U.calling g mk a) rfl rfl qN⟩
theorem gPermGh {o r f : Nat × va_E} {M Le : va_W} : (o :: (((M ++ Le) ++ [r]) ++ [f])).Perm (o :: r :: f :: (Le ++ M)) := by
  refine List.Perm.cons o ?_
  rw [List.append_assoc]
  refine (List.perm_append_comm (l₁ := M ++ Le) (l₂ := [r] ++ [f])).trans ?_
  show (r :: f :: (M ++ Le)).Perm (r :: f :: (Le ++ M))
  exact List.Perm.cons r (List.Perm.cons f List.perm_append_comm)
set_option maxHeartbeats 1000000 in
theorem gI_X {S : Type} {l : Launch} {y : MethodName} {D : va_G} {cy : ClassId} {av : List Value} {B : va_W} {nc ns : Nat} {B' : S → va_W} {cc : ByteArray} {maxL : Nat} {rm : Room} {Q : S → Prop} (hy : plainName y.cls = true) (hlen : (lg_sl av).length ≤ maxL) (hyn : y.name = "<init>")
    (body : ∀ (p : Program) (e : Env) (s : State) (m : MethodId) (args : Array Value) (below : List Frame) (meth : Method) (c : Code) (A : Nat → Prop) (Qg : State → Prop), CallFix p m c cc maxL s args gT y.cls → meth.name = "<init>" → va_Nw gNest s → va_K D vwCl [(cy, .int)] s → (∀ q : Nat, s.heap.size ≤ q → A q) →
      (∀ (u : S) (H : Heap) (locs : List Loc) (pc : Nat) (ls : Array Slot), Q u → va_P D vwCl (B' u) H → va_D A (B' u) → va_S A s.heap H locs → decode cc pc = .ok (.return_, 1) → W p l e rm s m args below meth c H locs nc ns Qg (F0 m pc ls [])) →
      ∀ (H : Heap) (locs : List Loc) (ls : Array Slot), lv_has ls maxL (lv_args 0 av) → va_P D vwCl B H → va_D A B → va_S A s.heap H locs → W p l e rm s m args below meth c H locs 0 0 Qg (F0 m 0 ls [])) : MetX l y (wT y cc maxL none) rm D cy av B nc ns B' Q := by
  intro sz
  refine Met.ofW (cc := cc) (maxL := maxL) (ret := none) hy rfl ?_
  intro p e s m args below meth c s₁ X hml hv
  obtain ⟨rfl, ⟨hsz, hP, hK, hD0⟩, hN⟩ := hv
  subst hsz
  have F : CallFix p m c cc maxL s av.toArray gT y.cls := ⟨X.exec, X.bytes, hml, findClass_of_methodNamed X.named, fun w hw => atoms_spec (ws := wT y cc maxL none) X.pre w (List.mem_cons_of_mem _ hw)⟩
  have hr := X.returns
  have hlocks := X.notSynchronized
  have hin : meth.name = "<init>" := ((name_of_methodNamed X.named X.method).1).trans hyn
  rw [lg_entry_eq]
  refine body p e s m av.toArray below meth c (va_A B s.heap.size) _ F hin hN hK (fun q h => Or.inr h) ?_ s.heap [] _ (lv_entry av hlen) hP hD0.self va_S.rf
  intro u H locs pc ls hu hP1 hD1 hS hdg
  exact W.vret F.1 F.2.1 hr (fun t ht hW => ⟨⟨u, rfl, hu, by refine ⟨?_, hD1⟩; rw [ht]; exact hP1⟩, hS.F ht⟩) hS.2.2 hdg
section GV6
variable {p : Program} {l : Launch} {e : Env} {R : Room} {s : State} {m : MethodId} {args : Array Value} {below : List Frame} {meth : Method} {c : Code} {H : Heap} {locs : List Loc} {cells slots : Nat} {Q : State → Prop}
variable {cc : ByteArray} {nL : Nat} {own : String} {pc : Nat} {ls : Array Slot} {rest : List Value} {D : va_G} {cy : ClassId} {A : Nat → Prop} {H0 : Heap}
/-- a constructor's call on the newest cell -/
theorem gc_NN (F : CallFix p m c cc nL s args gT own) {S : Type} {y : MethodName} {bytes : ByteArray} {maxL idx nc ns : Nat} {wy : List Cond} {rm : Room} {X B : va_W} {b : Nat} {st0 : List Value} {B1 : S → va_W} {Qc : S → Prop} (hK : va_K D vwCl [(cy, .int)] s) (hA : ∀ q : Nat, H0.size ≤ q → A q) (hP : va_P D vwCl (X ++ B) H) (hD : va_D A (X ++ B)) (hS : va_S A H0 H locs) (hM : MetN l y wy rm D cy [.ref b] B nc ns B1 Qc)
    {host : String} (cw : va_CN R s args own idx y host bytes maxL none wy rm nc ns 0 ∧ y.name = "<init>" ∧ (Cond.instanceMethod y).before args s = true) (hdg : decode cc pc = .ok (.invokespecial idx, 3)) (hst : st0 = .ref b :: rest) (hl : ls.size = nL) (hroom : (rest.map fun v => v.category).sum ≤ 8) (hc : cells + nc ≤ R.cells ∧ slots + ns ≤ R.slots)
    (k : ∀ (u : S) (H : Heap) (locs : List Loc), Qc u → va_P D vwCl (X ++ B1 u) H → va_D A (X ++ B1 u) → va_S A H0 H locs → W p l e R s m args below meth c H locs (cells + nc) (slots + ns) Q (F0 m (pc + 3) ls rest)) : W p l e R s m args below meth c H locs cells slots Q (F0 m pc ls st0) := by
  have hPB := gP_right hP
  have hDB := gD_right hD
  have hF : ∀ q : Nat, va_A B H.size q → A q := fun q h => by
    rcases h with ⟨k2, x, h⟩ | h
    · exact hDB.2 k2 _ h
    · exact hA q (Nat.le_trans hS.1 h)
  refine va_callv (va_runIN (As := []) (rest := rest) F (hM H.size) cw ⟨gPre_blind, fun U hU hW => ⟨rfl, by rw [hU], by rw [hU]; exact hPB, va_K.moved hW.alike hK, hDB.weaken (fun _ _ _ _ => trivial)⟩⟩ rfl rfl hl hst (lv_room hroom) hdg hc) hS (fun q _ h => hF q h) hF (fun u t H1 locs1 ht hvm hp hb2 hz hk hS1 => ?_)
  obtain ⟨hP1, hD1⟩ := hb2
  rw [ht] at hP1
  obtain ⟨hP2, hD2⟩ := gJoinNew hP hD hk hF hP1 hD1
  exact k u H1 locs1 hp hP2 hD2 hS1
/-- a constructor's call on the newest cell -/
theorem gc_X (F : CallFix p m c cc nL s args gT own) {S : Type} {y : MethodName} {bytes : ByteArray} {maxL idx nc ns : Nat} {wy : List Cond} {rm : Room} {X B : va_W} {b : Nat} {st0 : List Value} {B1 : S → va_W} {Qc : S → Prop} (hK : va_K D vwCl [(cy, .int)] s) (hA : ∀ q : Nat, H0.size ≤ q → A q) (hP : va_P D vwCl (X ++ B) H) (hD : va_D A (X ++ B)) (hS : va_S A H0 H locs) (hN : va_Nw gNest s) (hM : MetX l y wy rm D cy [.ref b] B nc ns B1 Qc)
    (cw : CallB R s args own idx y bytes maxL none wy rm nc ns 0 ∧ y.name = "<init>" ∧ (Cond.instanceMethod y).before args s = true) (hdg : decode cc pc = .ok (.invokespecial idx, 3)) (hst : st0 = .ref b :: rest) (hl : ls.size = nL) (hroom : (rest.map fun v => v.category).sum ≤ 8) (hc : cells + nc ≤ R.cells ∧ slots + ns ≤ R.slots)
    (k : ∀ (u : S) (H : Heap) (locs : List Loc), Qc u → va_P D vwCl (X ++ B1 u) H → va_D A (X ++ B1 u) → va_S A H0 H locs → W p l e R s m args below meth c H locs (cells + nc) (slots + ns) Q (F0 m (pc + 3) ls rest)) : W p l e R s m args below meth c H locs cells slots Q (F0 m pc ls st0) := by
  have hPB := gP_right hP
  have hDB := gD_right hD
  have hF : ∀ q : Nat, va_A B H.size q → A q := fun q h => by
    rcases h with ⟨k2, x, h⟩ | h
    · exact hDB.2 k2 _ h
    · exact hA q (Nat.le_trans hS.1 h)
  refine va_callv (va_runI (As := []) (rest := rest) F (hM H.size) cw ⟨gPreN_blind, fun U hU hW => ⟨rfl, ⟨by rw [hU], by rw [hU]; exact hPB, va_K.moved hW.alike hK, hDB.weaken (fun _ _ _ _ => trivial)⟩, va_Nw.warmM hW hN⟩⟩ rfl rfl hl hst (lv_room hroom) hdg hc) hS (fun q _ h => hF q h) hF (fun u t H1 locs1 ht hvm hp hb2 hz hk hS1 => ?_)
  obtain ⟨hP1, hD1⟩ := hb2
  rw [ht] at hP1
  obtain ⟨hP2, hD2⟩ := gJoinNew hP hD hk hF hP1 hD1
  exact k u H1 locs1 hp hP2 hD2 hS1
end GV6
theorem hd_X3_init : yX3_init.cls ≠ "java/lang/invoke/MethodHandle" ∧ yX3_init.cls ≠ "java/lang/invoke/VarHandle" ∧ (parseMethodDescriptor yX3_init.desc).map (fun d => d.parameters.length) = some 0 := by decide +kernel
abbrev rX3_init : Room := { frames := 5, cells := 64, slots := 1125, locals := 106 }
set_option maxHeartbeats 4000000 in
set_option maxRecDepth 20000 in
theorem c_X3_init (l : Launch) (D : va_G) (cy : ClassId) (h0 : Nat) (fa0 : AR) (h : wX2_measure (fun _ => 0) (fun _ => 0) (fun z => z = fa0)) : MetX (S := (Nat → Nat) × (Nat → Nat) × (Nat → Nat) × (Nat → Nat) × (Nat → Nat) × (Nat → Nat)) l yX3_init (wT yX3_init cX3_init 1 none) rX3_init D cy [.ref h0] [(h0, .inr (3, [.null, .null, .null, .null, .int (iI 0), .null, .null, .int (iI 0), .null]))] 64 1125 (fun u => wGh cy u.1 u.2.1 u.2.2.1 u.2.2.2.1 u.2.2.2.2.1 u.2.2.2.2.2 (fun _ => 0) (fun _ => 0) (fun _ => 0) (fun _ => 0) (fun _ => 0) (m0 fa0) (m0 fa0) (m0 fa0) (m0 fa0)) (fun u => u.1 0 = h0) := by
  refine gI_X (by decide) (Nat.le_of_ble_eq_true rfl) rfl ?_
  intro p e s m args below meth c A Qg F hin hN hK hA ret H locs ls hl hP hD hS
  have F : CallFix p m c cX3_init 1 s args gT RX3 := F
  have hl : lv_has ls 1 [(0, .ref h0)] := hl
  refine lv_aload_n F.1 F.2.1 dX3_init_0 rfl (lv_at hl 0 rfl) ?_
  refine W.objInit F.1 F.2.1 F.2.2.2.1 (F.2.2.2.2 _ k79) (F.2.2.2.2 _ k80) (F.2.2.2.2 _ k81) rfl (by rw [F.2.2.1]; exact hl.1) rfl dX3_init_1 (Nat.le_of_ble_eq_true rfl) (Nat.le_of_ble_eq_true rfl) ?_
  refine W.eq (g2 := F0 m 4 ls []) rfl ?_
  refine lv_aload_n F.1 F.2.1 dX3_init_4 rfl (lv_at hl 0 rfl) ?_
  refine va_new (ci := 1) (fs := [.null, .int (iI 0), .int (iI 0), .null, .null, .null, .null, .int (iI 0), .null, .null, .null, .null, .null, .null, .null]) (C := RX1) (T := TX1) (N := 15) F.1 F.2.1 F.2.2.2.2 hin1 tyX1 tyX1_ok F.2.2.2.1 (F.2.2.2.2 _ k82) (F.2.2.2.2 _ k83) (F.2.2.2.2 _ k62) hK hP hD hS hA rfl (fun j hj => by rcases (show j = 0 ∨ j = 1 ∨ j = 2 ∨ j = 3 ∨ j = 4 ∨ j = 5 ∨ j = 6 ∨ j = 7 ∨ j = 8 ∨ j = 9 ∨ j = 10 ∨ j = 11 ∨ j = 12 ∨ j = 13 ∨ j = 14 by omega) with rfl | rfl | rfl | rfl | rfl | rfl | rfl | rfl | rfl | rfl | rfl | rfl | rfl | rfl | rfl <;> rfl) (Nat.le_of_ble_eq_true rfl) (Nat.le_of_ble_eq_true rfl) dX3_init_5 (fun q1 H hP hD hS => ?_)
  refine W.widen (k := 1) (n := 15) (by omega) (by omega) ?_
  refine lv_dup F.1 F.2.1 dX3_init_8 rfl ?_
  have hP : va_P D vwCl (([(h0, .inr (3, [.null, .null, .null, .null, .int (iI 0), .null, .null, .int (iI 0), .null]))]) ++ [(q1, .inr (1, [.null, .int (iI 0), .int (iI 0), .null, .null, .null, .null, .int (iI 0), .null, .null, .null, .null, .null, .null, .null]))]) H := hP
  have hD : va_D A (([(h0, .inr (3, [.null, .null, .null, .null, .int (iI 0), .null, .null, .int (iI 0), .null]))]) ++ [(q1, .inr (1, [.null, .int (iI 0), .int (iI 0), .null, .null, .null, .null, .int (iI 0), .null, .null, .null, .null, .null, .null, .null]))]) := hD
  refine gc_N F hK hA hP hD hS (c_X1_init l D cy q1 fa0 h) (cwI 0 F.2.2.2.2 (gN_words (own := RX1) k86) rfl rfl rfl (F.2.2.2.2 _ k62) (F.2.2.2.2 _ k84) (F.2.2.2.2 _ k85) rfl hd_X1_init ⟨Nat.le_of_ble_eq_true rfl, Nat.le_of_ble_eq_true rfl⟩) dX3_init_9 rfl hl.1 (Nat.le_of_ble_eq_true rfl) ⟨Nat.le_of_ble_eq_true rfl, Nat.le_of_ble_eq_true rfl⟩ (fun aN H locs eN hP hD hS => ?_)
  try dsimp only at eN hP hD
  rw [← eN]
  refine W.widen (k := 15) (n := 252) (by omega) (by omega) ?_
  have hP : va_P D vwCl ((h0, .inr (3, [.null, .null, .null, .null, .int (iI 0), .null, .null, .int (iI 0), .null])) :: wMu cy aN (m0 fa0)) H := hP
  have hD : va_D A ((h0, .inr (3, [.null, .null, .null, .null, .int (iI 0), .null, .null, .int (iI 0), .null])) :: wMu cy aN (m0 fa0)) := hD
  refine va_putF (D := D) (ci := 3) (v := .ref (aN 0)) (ty := (.object "GreenHorseUpstairs$Museum")) (C := RX3) (T := TX3) (N := 9) F.1 F.2.1 F.2.2.2.2 hin3 tyX3 tyX3_ok nmX3 F.2.2.2.1 hK hP hD hS 0 rfl rfl 0 (by decide) (F.2.2.2.2 _ k188) (fun _ h9 => h9) rfl hin rfl (by decide +kernel) rfl rfl (Nat.le_of_ble_eq_true rfl) dX3_init_12 (fun H locs hP hD hS => ?_)
  have hP : va_P D vwCl ((h0, .inr (3, [.ref (aN 0), .null, .null, .null, .int (iI 0), .null, .null, .int (iI 0), .null])) :: wMu cy aN (m0 fa0)) H := hP
  have hD : va_D A ((h0, .inr (3, [.ref (aN 0), .null, .null, .null, .int (iI 0), .null, .null, .int (iI 0), .null])) :: wMu cy aN (m0 fa0)) := hD
  refine lv_aload_n F.1 F.2.1 dX3_init_15 rfl (lv_at hl 0 rfl) ?_
  refine va_new (ci := 1) (fs := [.null, .int (iI 0), .int (iI 0), .null, .null, .null, .null, .int (iI 0), .null, .null, .null, .null, .null, .null, .null]) (C := RX1) (T := TX1) (N := 15) F.1 F.2.1 F.2.2.2.2 hin1 tyX1 tyX1_ok F.2.2.2.1 (F.2.2.2.2 _ k82) (F.2.2.2.2 _ k83) (F.2.2.2.2 _ k62) hK hP hD hS hA rfl (fun j hj => by rcases (show j = 0 ∨ j = 1 ∨ j = 2 ∨ j = 3 ∨ j = 4 ∨ j = 5 ∨ j = 6 ∨ j = 7 ∨ j = 8 ∨ j = 9 ∨ j = 10 ∨ j = 11 ∨ j = 12 ∨ j = 13 ∨ j = 14 by omega) with rfl | rfl | rfl | rfl | rfl | rfl | rfl | rfl | rfl | rfl | rfl | rfl | rfl | rfl | rfl <;> rfl) (Nat.le_of_ble_eq_true rfl) (Nat.le_of_ble_eq_true rfl) dX3_init_16 (fun q2 H hP hD hS => ?_)
  refine W.widen (k := 16) (n := 267) (by omega) (by omega) ?_
  refine lv_dup F.1 F.2.1 dX3_init_19 rfl ?_
  have hP : va_P D vwCl (((h0, .inr (3, [.ref (aN 0), .null, .null, .null, .int (iI 0), .null, .null, .int (iI 0), .null])) :: wMu cy aN (m0 fa0)) ++ [(q2, .inr (1, [.null, .int (iI 0), .int (iI 0), .null, .null, .null, .null, .int (iI 0), .null, .null, .null, .null, .null, .null, .null]))]) H := hP
  have hD : va_D A (((h0, .inr (3, [.ref (aN 0), .null, .null, .null, .int (iI 0), .null, .null, .int (iI 0), .null])) :: wMu cy aN (m0 fa0)) ++ [(q2, .inr (1, [.null, .int (iI 0), .int (iI 0), .null, .null, .null, .null, .int (iI 0), .null, .null, .null, .null, .null, .null, .null]))]) := hD
  refine gc_N F hK hA hP hD hS (c_X1_init l D cy q2 fa0 h) (cwI 0 F.2.2.2.2 (gN_words (own := RX1) k86) rfl rfl rfl (F.2.2.2.2 _ k62) (F.2.2.2.2 _ k84) (F.2.2.2.2 _ k85) rfl hd_X1_init ⟨Nat.le_of_ble_eq_true rfl, Nat.le_of_ble_eq_true rfl⟩) dX3_init_20 rfl hl.1 (Nat.le_of_ble_eq_true rfl) ⟨Nat.le_of_ble_eq_true rfl, Nat.le_of_ble_eq_true rfl⟩ (fun aT H locs eT hP hD hS => ?_)
  try dsimp only at eT hP hD
  rw [← eT]
  refine W.widen (k := 30) (n := 504) (by omega) (by omega) ?_
  have hP : va_P D vwCl ((h0, .inr (3, [.ref (aN 0), .null, .null, .null, .int (iI 0), .null, .null, .int (iI 0), .null])) :: (wMu cy aN (m0 fa0) ++ wMu cy aT (m0 fa0))) H := hP
  have hD : va_D A ((h0, .inr (3, [.ref (aN 0), .null, .null, .null, .int (iI 0), .null, .null, .int (iI 0), .null])) :: (wMu cy aN (m0 fa0) ++ wMu cy aT (m0 fa0))) := hD
  refine va_putF (D := D) (ci := 3) (v := .ref (aT 0)) (ty := (.object "GreenHorseUpstairs$Museum")) (C := RX3) (T := TX3) (N := 9) F.1 F.2.1 F.2.2.2.2 hin3 tyX3 tyX3_ok nmX3 F.2.2.2.1 hK hP hD hS 0 rfl rfl 1 (by decide) (F.2.2.2.2 _ k189) (fun _ h9 => h9) rfl hin rfl (by decide +kernel) rfl rfl (Nat.le_of_ble_eq_true rfl) dX3_init_23 (fun H locs hP hD hS => ?_)
  have hP : va_P D vwCl ((h0, .inr (3, [.ref (aN 0), .ref (aT 0), .null, .null, .int (iI 0), .null, .null, .int (iI 0), .null])) :: (wMu cy aN (m0 fa0) ++ wMu cy aT (m0 fa0))) H := hP
  have hD : va_D A ((h0, .inr (3, [.ref (aN 0), .ref (aT 0), .null, .null, .int (iI 0), .null, .null, .int (iI 0), .null])) :: (wMu cy aN (m0 fa0) ++ wMu cy aT (m0 fa0))) := hD
  refine lv_aload_n F.1 F.2.1 dX3_init_26 rfl (lv_at hl 0 rfl) ?_
  refine va_new (ci := 1) (fs := [.null, .int (iI 0), .int (iI 0), .null, .null, .null, .null, .int (iI 0), .null, .null, .null, .null, .null, .null, .null]) (C := RX1) (T := TX1) (N := 15) F.1 F.2.1 F.2.2.2.2 hin1 tyX1 tyX1_ok F.2.2.2.1 (F.2.2.2.2 _ k82) (F.2.2.2.2 _ k83) (F.2.2.2.2 _ k62) hK hP hD hS hA rfl (fun j hj => by rcases (show j = 0 ∨ j = 1 ∨ j = 2 ∨ j = 3 ∨ j = 4 ∨ j = 5 ∨ j = 6 ∨ j = 7 ∨ j = 8 ∨ j = 9 ∨ j = 10 ∨ j = 11 ∨ j = 12 ∨ j = 13 ∨ j = 14 by omega) with rfl | rfl | rfl | rfl | rfl | rfl | rfl | rfl | rfl | rfl | rfl | rfl | rfl | rfl | rfl <;> rfl) (Nat.le_of_ble_eq_true rfl) (Nat.le_of_ble_eq_true rfl) dX3_init_27 (fun q3 H hP hD hS => ?_)
  refine W.widen (k := 31) (n := 519) (by omega) (by omega) ?_
  refine lv_dup F.1 F.2.1 dX3_init_30 rfl ?_
  have hP : va_P D vwCl (((h0, .inr (3, [.ref (aN 0), .ref (aT 0), .null, .null, .int (iI 0), .null, .null, .int (iI 0), .null])) :: (wMu cy aN (m0 fa0) ++ wMu cy aT (m0 fa0))) ++ [(q3, .inr (1, [.null, .int (iI 0), .int (iI 0), .null, .null, .null, .null, .int (iI 0), .null, .null, .null, .null, .null, .null, .null]))]) H := hP
  have hD : va_D A (((h0, .inr (3, [.ref (aN 0), .ref (aT 0), .null, .null, .int (iI 0), .null, .null, .int (iI 0), .null])) :: (wMu cy aN (m0 fa0) ++ wMu cy aT (m0 fa0))) ++ [(q3, .inr (1, [.null, .int (iI 0), .int (iI 0), .null, .null, .null, .null, .int (iI 0), .null, .null, .null, .null, .null, .null, .null]))]) := hD
  refine gc_N F hK hA hP hD hS (c_X1_init l D cy q3 fa0 h) (cwI 0 F.2.2.2.2 (gN_words (own := RX1) k86) rfl rfl rfl (F.2.2.2.2 _ k62) (F.2.2.2.2 _ k84) (F.2.2.2.2 _ k85) rfl hd_X1_init ⟨Nat.le_of_ble_eq_true rfl, Nat.le_of_ble_eq_true rfl⟩) dX3_init_31 rfl hl.1 (Nat.le_of_ble_eq_true rfl) ⟨Nat.le_of_ble_eq_true rfl, Nat.le_of_ble_eq_true rfl⟩ (fun aK H locs eK hP hD hS => ?_)
  try dsimp only at eK hP hD
  rw [← eK]
  refine W.widen (k := 45) (n := 756) (by omega) (by omega) ?_
  have hP : va_P D vwCl ((h0, .inr (3, [.ref (aN 0), .ref (aT 0), .null, .null, .int (iI 0), .null, .null, .int (iI 0), .null])) :: ((wMu cy aN (m0 fa0) ++ wMu cy aT (m0 fa0)) ++ wMu cy aK (m0 fa0))) H := hP
  have hD : va_D A ((h0, .inr (3, [.ref (aN 0), .ref (aT 0), .null, .null, .int (iI 0), .null, .null, .int (iI 0), .null])) :: ((wMu cy aN (m0 fa0) ++ wMu cy aT (m0 fa0)) ++ wMu cy aK (m0 fa0))) := hD
  refine va_putF (D := D) (ci := 3) (v := .ref (aK 0)) (ty := (.object "GreenHorseUpstairs$Museum")) (C := RX3) (T := TX3) (N := 9) F.1 F.2.1 F.2.2.2.2 hin3 tyX3 tyX3_ok nmX3 F.2.2.2.1 hK hP hD hS 0 rfl rfl 2 (by decide) (F.2.2.2.2 _ k190) (fun _ h9 => h9) rfl hin rfl (by decide +kernel) rfl rfl (Nat.le_of_ble_eq_true rfl) dX3_init_34 (fun H locs hP hD hS => ?_)
  have hP : va_P D vwCl ((h0, .inr (3, [.ref (aN 0), .ref (aT 0), .ref (aK 0), .null, .int (iI 0), .null, .null, .int (iI 0), .null])) :: ((wMu cy aN (m0 fa0) ++ wMu cy aT (m0 fa0)) ++ wMu cy aK (m0 fa0))) H := hP
  have hD : va_D A ((h0, .inr (3, [.ref (aN 0), .ref (aT 0), .ref (aK 0), .null, .int (iI 0), .null, .null, .int (iI 0), .null])) :: ((wMu cy aN (m0 fa0) ++ wMu cy aT (m0 fa0)) ++ wMu cy aK (m0 fa0))) := hD
  refine lv_aload_n F.1 F.2.1 dX3_init_37 rfl (lv_at hl 0 rfl) ?_
  refine va_new (ci := 1) (fs := [.null, .int (iI 0), .int (iI 0), .null, .null, .null, .null, .int (iI 0), .null, .null, .null, .null, .null, .null, .null]) (C := RX1) (T := TX1) (N := 15) F.1 F.2.1 F.2.2.2.2 hin1 tyX1 tyX1_ok F.2.2.2.1 (F.2.2.2.2 _ k82) (F.2.2.2.2 _ k83) (F.2.2.2.2 _ k62) hK hP hD hS hA rfl (fun j hj => by rcases (show j = 0 ∨ j = 1 ∨ j = 2 ∨ j = 3 ∨ j = 4 ∨ j = 5 ∨ j = 6 ∨ j = 7 ∨ j = 8 ∨ j = 9 ∨ j = 10 ∨ j = 11 ∨ j = 12 ∨ j = 13 ∨ j = 14 by omega) with rfl | rfl | rfl | rfl | rfl | rfl | rfl | rfl | rfl | rfl | rfl | rfl | rfl | rfl | rfl <;> rfl) (Nat.le_of_ble_eq_true rfl) (Nat.le_of_ble_eq_true rfl) dX3_init_38 (fun q4 H hP hD hS => ?_)
  refine W.widen (k := 46) (n := 771) (by omega) (by omega) ?_
  refine lv_dup F.1 F.2.1 dX3_init_41 rfl ?_
  have hP : va_P D vwCl (((h0, .inr (3, [.ref (aN 0), .ref (aT 0), .ref (aK 0), .null, .int (iI 0), .null, .null, .int (iI 0), .null])) :: ((wMu cy aN (m0 fa0) ++ wMu cy aT (m0 fa0)) ++ wMu cy aK (m0 fa0))) ++ [(q4, .inr (1, [.null, .int (iI 0), .int (iI 0), .null, .null, .null, .null, .int (iI 0), .null, .null, .null, .null, .null, .null, .null]))]) H := hP
  have hD : va_D A (((h0, .inr (3, [.ref (aN 0), .ref (aT 0), .ref (aK 0), .null, .int (iI 0), .null, .null, .int (iI 0), .null])) :: ((wMu cy aN (m0 fa0) ++ wMu cy aT (m0 fa0)) ++ wMu cy aK (m0 fa0))) ++ [(q4, .inr (1, [.null, .int (iI 0), .int (iI 0), .null, .null, .null, .null, .int (iI 0), .null, .null, .null, .null, .null, .null, .null]))]) := hD
  refine gc_N F hK hA hP hD hS (c_X1_init l D cy q4 fa0 h) (cwI 0 F.2.2.2.2 (gN_words (own := RX1) k86) rfl rfl rfl (F.2.2.2.2 _ k62) (F.2.2.2.2 _ k84) (F.2.2.2.2 _ k85) rfl hd_X1_init ⟨Nat.le_of_ble_eq_true rfl, Nat.le_of_ble_eq_true rfl⟩) dX3_init_42 rfl hl.1 (Nat.le_of_ble_eq_true rfl) ⟨Nat.le_of_ble_eq_true rfl, Nat.le_of_ble_eq_true rfl⟩ (fun aI H locs eI hP hD hS => ?_)
  try dsimp only at eI hP hD
  rw [← eI]
  refine W.widen (k := 60) (n := 1008) (by omega) (by omega) ?_
  have hP : va_P D vwCl ((h0, .inr (3, [.ref (aN 0), .ref (aT 0), .ref (aK 0), .null, .int (iI 0), .null, .null, .int (iI 0), .null])) :: (((wMu cy aN (m0 fa0) ++ wMu cy aT (m0 fa0)) ++ wMu cy aK (m0 fa0)) ++ wMu cy aI (m0 fa0))) H := hP
  have hD : va_D A ((h0, .inr (3, [.ref (aN 0), .ref (aT 0), .ref (aK 0), .null, .int (iI 0), .null, .null, .int (iI 0), .null])) :: (((wMu cy aN (m0 fa0) ++ wMu cy aT (m0 fa0)) ++ wMu cy aK (m0 fa0)) ++ wMu cy aI (m0 fa0))) := hD
  refine va_putF (D := D) (ci := 3) (v := .ref (aI 0)) (ty := (.object "GreenHorseUpstairs$Museum")) (C := RX3) (T := TX3) (N := 9) F.1 F.2.1 F.2.2.2.2 hin3 tyX3 tyX3_ok nmX3 F.2.2.2.1 hK hP hD hS 0 rfl rfl 3 (by decide) (F.2.2.2.2 _ k191) (fun _ h9 => h9) rfl hin rfl (by decide +kernel) rfl rfl (Nat.le_of_ble_eq_true rfl) dX3_init_45 (fun H locs hP hD hS => ?_)
  have hP : va_P D vwCl ((h0, .inr (3, [.ref (aN 0), .ref (aT 0), .ref (aK 0), .ref (aI 0), .int (iI 0), .null, .null, .int (iI 0), .null])) :: (((wMu cy aN (m0 fa0) ++ wMu cy aT (m0 fa0)) ++ wMu cy aK (m0 fa0)) ++ wMu cy aI (m0 fa0))) H := hP
  have hD : va_D A ((h0, .inr (3, [.ref (aN 0), .ref (aT 0), .ref (aK 0), .ref (aI 0), .int (iI 0), .null, .null, .int (iI 0), .null])) :: (((wMu cy aN (m0 fa0) ++ wMu cy aT (m0 fa0)) ++ wMu cy aK (m0 fa0)) ++ wMu cy aI (m0 fa0))) := hD
  refine lv_aload_n F.1 F.2.1 dX3_init_48 rfl (lv_at hl 0 rfl) ?_
  refine gv_iconst F dX3_init_49 ?_
  refine gv_put (ws' := (h0, .inr (3, [.ref (aN 0), .ref (aT 0), .ref (aK 0), .ref (aI 0), .int (iI 0), .null, .null, .int (iI 0), .null])) :: (((wMu cy aN (m0 fa0) ++ wMu cy aT (m0 fa0)) ++ wMu cy aK (m0 fa0)) ++ wMu cy aI (m0 fa0))) F hin3 tyX3 tyX3_ok nmX3 hK hP hD hS 0 rfl rfl 4 (by decide) k192 rfl (ty := .boolean) (by decide +kernel) rfl rfl (Nat.le_of_ble_eq_true rfl) rfl dX3_init_50 (fun H locs hP hD hS => ?_)
  refine lv_aload_n F.1 F.2.1 dX3_init_53 rfl (lv_at hl 0 rfl) ?_
  refine va_new (ci := 0) (fs := [.null, .int (iI 0)]) (C := RX0) (T := TX0) (N := 2) F.1 F.2.1 F.2.2.2.2 hin0 tyX0 tyX0_ok F.2.2.2.1 (F.2.2.2.2 _ k175) (F.2.2.2.2 _ k176) (F.2.2.2.2 _ k66) hK hP hD hS hA rfl (fun j hj => by rcases (show j = 0 ∨ j = 1 by omega) with rfl | rfl <;> rfl) (Nat.le_of_ble_eq_true rfl) (Nat.le_of_ble_eq_true rfl) dX3_init_54 (fun q5 H hP hD hS => ?_)
  refine W.widen (k := 61) (n := 1010) (by omega) (by omega) ?_
  refine lv_dup F.1 F.2.1 dX3_init_57 rfl ?_
  have hP : va_P D vwCl (((h0, .inr (3, [.ref (aN 0), .ref (aT 0), .ref (aK 0), .ref (aI 0), .int (iI 0), .null, .null, .int (iI 0), .null])) :: (((wMu cy aN (m0 fa0) ++ wMu cy aT (m0 fa0)) ++ wMu cy aK (m0 fa0)) ++ wMu cy aI (m0 fa0))) ++ [(q5, .inr (0, [.null, .int (iI 0)]))]) H := hP
  have hD : va_D A (((h0, .inr (3, [.ref (aN 0), .ref (aT 0), .ref (aK 0), .ref (aI 0), .int (iI 0), .null, .null, .int (iI 0), .null])) :: (((wMu cy aN (m0 fa0) ++ wMu cy aT (m0 fa0)) ++ wMu cy aK (m0 fa0)) ++ wMu cy aI (m0 fa0))) ++ [(q5, .inr (0, [.null, .int (iI 0)]))]) := hD
  refine gc_NN F hK hA hP hD hS (c_X0_init l D cy q5) (host := RX3) ⟨va_cnB 0 F.2.2.2.2 (gN_words (own := RX0) k179) rfl rfl rfl hN (F.2.2.2.2 _ k66) hd_X0_init ⟨Nat.le_of_ble_eq_true rfl, Nat.le_of_ble_eq_true rfl⟩, rfl, F.2.2.2.2 _ k178⟩ dX3_init_58 rfl hl.1 (Nat.le_of_ble_eq_true rfl) ⟨Nat.le_of_ble_eq_true rfl, Nat.le_of_ble_eq_true rfl⟩ (fun aL H locs eL hP hD hS => ?_)
  try dsimp only at eL hP hD
  rw [← eL]
  refine W.widen (k := 62) (n := 1106) (by omega) (by omega) ?_
  have hP : va_P D vwCl ((h0, .inr (3, [.ref (aN 0), .ref (aT 0), .ref (aK 0), .ref (aI 0), .int (iI 0), .null, .null, .int (iI 0), .null])) :: ((((wMu cy aN (m0 fa0) ++ wMu cy aT (m0 fa0)) ++ wMu cy aK (m0 fa0)) ++ wMu cy aI (m0 fa0)) ++ wLe cy aL (fun _ => 0) (fun _ => 0))) H := hP
  have hD : va_D A ((h0, .inr (3, [.ref (aN 0), .ref (aT 0), .ref (aK 0), .ref (aI 0), .int (iI 0), .null, .null, .int (iI 0), .null])) :: ((((wMu cy aN (m0 fa0) ++ wMu cy aT (m0 fa0)) ++ wMu cy aK (m0 fa0)) ++ wMu cy aI (m0 fa0)) ++ wLe cy aL (fun _ => 0) (fun _ => 0))) := hD
  refine va_putF (D := D) (ci := 3) (v := .ref (aL 0)) (ty := (.object "GreenHorseUpstairs$Letters")) (C := RX3) (T := TX3) (N := 9) F.1 F.2.1 F.2.2.2.2 hin3 tyX3 tyX3_ok nmX3 F.2.2.2.1 hK hP hD hS 0 rfl rfl 5 (by decide) (F.2.2.2.2 _ k193) (fun _ h9 => h9) rfl hin rfl (by decide +kernel) rfl rfl (Nat.le_of_ble_eq_true rfl) dX3_init_61 (fun H locs hP hD hS => ?_)
  have hP : va_P D vwCl ((h0, .inr (3, [.ref (aN 0), .ref (aT 0), .ref (aK 0), .ref (aI 0), .int (iI 0), .ref (aL 0), .null, .int (iI 0), .null])) :: ((((wMu cy aN (m0 fa0) ++ wMu cy aT (m0 fa0)) ++ wMu cy aK (m0 fa0)) ++ wMu cy aI (m0 fa0)) ++ wLe cy aL (fun _ => 0) (fun _ => 0))) H := hP
  have hD : va_D A ((h0, .inr (3, [.ref (aN 0), .ref (aT 0), .ref (aK 0), .ref (aI 0), .int (iI 0), .ref (aL 0), .null, .int (iI 0), .null])) :: ((((wMu cy aN (m0 fa0) ++ wMu cy aT (m0 fa0)) ++ wMu cy aK (m0 fa0)) ++ wMu cy aI (m0 fa0)) ++ wLe cy aL (fun _ => 0) (fun _ => 0))) := hD
  refine lv_aload_n F.1 F.2.1 dX3_init_64 rfl (lv_at hl 0 rfl) ?_
  refine gv_bipush F ⟨by decide, by decide⟩ dX3_init_65 ?_
  refine gv_newa F k112 hK hP hD hS hA 12 rfl (by decide) (Nat.le_of_ble_eq_true rfl) (Nat.le_of_ble_eq_true rfl) dX3_init_67 (fun q6 H hP hD hS => ?_)
  have hP : va_P D vwCl ((h0, .inr (3, [.ref (aN 0), .ref (aT 0), .ref (aK 0), .ref (aI 0), .int (iI 0), .ref (aL 0), .null, .int (iI 0), .null])) :: (((((wMu cy aN (m0 fa0) ++ wMu cy aT (m0 fa0)) ++ wMu cy aK (m0 fa0)) ++ wMu cy aI (m0 fa0)) ++ wLe cy aL (fun _ => 0) (fun _ => 0)) ++ [(q6, gA cy 12 (fun _ => 0))])) H := hP
  have hD : va_D A ((h0, .inr (3, [.ref (aN 0), .ref (aT 0), .ref (aK 0), .ref (aI 0), .int (iI 0), .ref (aL 0), .null, .int (iI 0), .null])) :: (((((wMu cy aN (m0 fa0) ++ wMu cy aT (m0 fa0)) ++ wMu cy aK (m0 fa0)) ++ wMu cy aI (m0 fa0)) ++ wLe cy aL (fun _ => 0) (fun _ => 0)) ++ [(q6, gA cy 12 (fun _ => 0))])) := hD
  refine W.widen (k := 63) (n := 1118) (by omega) (by omega) ?_
  refine va_putF (D := D) (ci := 3) (v := .ref q6) (ty := (.array .int)) (C := RX3) (T := TX3) (N := 9) F.1 F.2.1 F.2.2.2.2 hin3 tyX3 tyX3_ok nmX3 F.2.2.2.1 hK hP hD hS 0 rfl rfl 6 (by decide) (F.2.2.2.2 _ k194) (fun _ h9 => h9) rfl hin rfl (by decide +kernel) rfl rfl (Nat.le_of_ble_eq_true rfl) dX3_init_69 (fun H locs hP hD hS => ?_)
  have hP : va_P D vwCl ((h0, .inr (3, [.ref (aN 0), .ref (aT 0), .ref (aK 0), .ref (aI 0), .int (iI 0), .ref (aL 0), .ref q6, .int (iI 0), .null])) :: (((((wMu cy aN (m0 fa0) ++ wMu cy aT (m0 fa0)) ++ wMu cy aK (m0 fa0)) ++ wMu cy aI (m0 fa0)) ++ wLe cy aL (fun _ => 0) (fun _ => 0)) ++ [(q6, gA cy 12 (fun _ => 0))])) H := hP
  have hD : va_D A ((h0, .inr (3, [.ref (aN 0), .ref (aT 0), .ref (aK 0), .ref (aI 0), .int (iI 0), .ref (aL 0), .ref q6, .int (iI 0), .null])) :: (((((wMu cy aN (m0 fa0) ++ wMu cy aT (m0 fa0)) ++ wMu cy aK (m0 fa0)) ++ wMu cy aI (m0 fa0)) ++ wLe cy aL (fun _ => 0) (fun _ => 0)) ++ [(q6, gA cy 12 (fun _ => 0))])) := hD
  refine lv_aload_n F.1 F.2.1 dX3_init_72 rfl (lv_at hl 0 rfl) ?_
  refine gv_iconst F dX3_init_73 ?_
  refine gv_put (ws' := (h0, .inr (3, [.ref (aN 0), .ref (aT 0), .ref (aK 0), .ref (aI 0), .int (iI 0), .ref (aL 0), .ref q6, .int (iI 0), .null])) :: (((((wMu cy aN (m0 fa0) ++ wMu cy aT (m0 fa0)) ++ wMu cy aK (m0 fa0)) ++ wMu cy aI (m0 fa0)) ++ wLe cy aL (fun _ => 0) (fun _ => 0)) ++ [(q6, gA cy 12 (fun _ => 0))])) F hin3 tyX3 tyX3_ok nmX3 hK hP hD hS 0 rfl rfl 7 (by decide) k195 rfl (ty := .int) (by decide +kernel) rfl rfl (Nat.le_of_ble_eq_true rfl) rfl dX3_init_74 (fun H locs hP hD hS => ?_)
  refine lv_aload_n F.1 F.2.1 dX3_init_77 rfl (lv_at hl 0 rfl) ?_
  refine gv_bipush F ⟨by decide, by decide⟩ dX3_init_78 ?_
  refine gv_newa F k112 hK hP hD hS hA 7 rfl (by decide) (Nat.le_of_ble_eq_true rfl) (Nat.le_of_ble_eq_true rfl) dX3_init_80 (fun q7 H hP hD hS => ?_)
  have hP : va_P D vwCl ((h0, .inr (3, [.ref (aN 0), .ref (aT 0), .ref (aK 0), .ref (aI 0), .int (iI 0), .ref (aL 0), .ref q6, .int (iI 0), .null])) :: ((((((wMu cy aN (m0 fa0) ++ wMu cy aT (m0 fa0)) ++ wMu cy aK (m0 fa0)) ++ wMu cy aI (m0 fa0)) ++ wLe cy aL (fun _ => 0) (fun _ => 0)) ++ [(q6, gA cy 12 (fun _ => 0))]) ++ [(q7, gA cy 7 (fun _ => 0))])) H := hP
  have hD : va_D A ((h0, .inr (3, [.ref (aN 0), .ref (aT 0), .ref (aK 0), .ref (aI 0), .int (iI 0), .ref (aL 0), .ref q6, .int (iI 0), .null])) :: ((((((wMu cy aN (m0 fa0) ++ wMu cy aT (m0 fa0)) ++ wMu cy aK (m0 fa0)) ++ wMu cy aI (m0 fa0)) ++ wLe cy aL (fun _ => 0) (fun _ => 0)) ++ [(q6, gA cy 12 (fun _ => 0))]) ++ [(q7, gA cy 7 (fun _ => 0))])) := hD
  refine W.widen (k := 64) (n := 1125) (by omega) (by omega) ?_
  refine va_putF (D := D) (ci := 3) (v := .ref q7) (ty := (.array .int)) (C := RX3) (T := TX3) (N := 9) F.1 F.2.1 F.2.2.2.2 hin3 tyX3 tyX3_ok nmX3 F.2.2.2.1 hK hP hD hS 0 rfl rfl 8 (by decide) (F.2.2.2.2 _ k196) (fun _ h9 => h9) rfl hin rfl (by decide +kernel) rfl rfl (Nat.le_of_ble_eq_true rfl) dX3_init_82 (fun H locs hP hD hS => ?_)
  have hP : va_P D vwCl ((h0, .inr (3, [.ref (aN 0), .ref (aT 0), .ref (aK 0), .ref (aI 0), .int (iI 0), .ref (aL 0), .ref q6, .int (iI 0), .ref q7])) :: ((((((wMu cy aN (m0 fa0) ++ wMu cy aT (m0 fa0)) ++ wMu cy aK (m0 fa0)) ++ wMu cy aI (m0 fa0)) ++ wLe cy aL (fun _ => 0) (fun _ => 0)) ++ [(q6, gA cy 12 (fun _ => 0))]) ++ [(q7, gA cy 7 (fun _ => 0))])) H := hP
  have hD : va_D A ((h0, .inr (3, [.ref (aN 0), .ref (aT 0), .ref (aK 0), .ref (aI 0), .int (iI 0), .ref (aL 0), .ref q6, .int (iI 0), .ref q7])) :: ((((((wMu cy aN (m0 fa0) ++ wMu cy aT (m0 fa0)) ++ wMu cy aK (m0 fa0)) ++ wMu cy aI (m0 fa0)) ++ wLe cy aL (fun _ => 0) (fun _ => 0)) ++ [(q6, gA cy 12 (fun _ => 0))]) ++ [(q7, gA cy 7 (fun _ => 0))])) := hD
  have ep : (h0, .inr (3, [.ref (aN 0), .ref (aT 0), .ref (aK 0), .ref (aI 0), .int (iI 0), .ref (aL 0), .ref q6, .int (iI 0), .ref q7])) :: (wLe cy aL (fun _ => 0) (fun _ => 0) ++ [])  = (h0, .inr (3, [.ref (aN 0), .ref (aT 0), .ref (aK 0), .ref (aI 0), .int (iI 0), .ref (aL 0), .ref q6, .int (iI 0), .ref q7])) :: (wLe cy aL (fun _ => 0) (fun _ => 0) ++ []) := rfl
  have hP := gP_perm gPermGh hP
  have hD := gD_perm gPermGh hD
  have ew : wGh cy (fun k => match k with | 0 => h0 | 1 => q6 | _ => q7) aL aN aT aK aI (fun _ => 0) (fun _ => 0) (fun _ => 0) (fun _ => 0) (fun _ => 0) (m0 fa0) (m0 fa0) (m0 fa0) (m0 fa0) = (h0, .inr (3, [.ref (aN 0), .ref (aT 0), .ref (aK 0), .ref (aI 0), .int (iI 0), .ref (aL 0), .ref q6, .int (iI 0), .ref q7])) :: (q6, gA cy 12 (fun _ => 0)) :: (q7, gA cy 7 (fun _ => 0)) :: (wLe cy aL (fun _ => 0) (fun _ => 0) ++ (((wMu cy aN (m0 fa0) ++ wMu cy aT (m0 fa0)) ++ wMu cy aK (m0 fa0)) ++ wMu cy aI (m0 fa0))) := by
    simp only [wGh, eGh, List.append_assoc]
  exact ret ((fun k => match k with | 0 => h0 | 1 => q6 | _ => q7), aL, aN, aT, aK, aI) H locs 85 ls rfl (by dsimp only; rw [ew]; exact hP) (by dsimp only; rw [ew]; exact hD) hS dX3_init_85
