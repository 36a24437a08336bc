/-! my rows: the machine's ints as whole numbers, a row an instruction, contracts of three kinds -/
def iI (z : Int) : Int32 := Int32.ofInt z
abbrev gR (z : Int) : Prop := -2147483648 ≤ z ∧ z ≤ 2147483647
theorem iI_of (x : Int32) : iI x.toInt = x := Int32.ofInt_toInt x
theorem gR_toInt (x : Int32) : gR x.toInt := ⟨Int32.le_toInt x, Int.le_of_lt_add_one (Int32.toInt_lt x)⟩
theorem iI_toInt {z : Int} (h : gR z) : (iI z).toInt = z := Int32.toInt_ofInt_of_le h.1 (Int.lt_of_le_of_lt h.2 (by decide))
theorem iI_add (a b : Int) : iI a + iI b = iI (a + b) := (Int32.ofInt_add a b).symm
theorem iI_sub (a b : Int) : iI a - iI b = iI (a - b) := (Int32.ofInt_sub a b).symm
theorem iI_mul (a b : Int) : iI a * iI b = iI (a * b) := (Int32.ofInt_mul a b).symm
theorem iI_neg (a : Int) : - iI a = iI (-a) := (Int32.ofInt_neg a).symm
theorem iI_lt {a b : Int} (ha : gR a) (hb : gR b) : iI a < iI b ↔ a < b := by rw [Int32.lt_iff_toInt_lt, iI_toInt ha, iI_toInt hb]
theorem iI_le {a b : Int} (ha : gR a) (hb : gR b) : iI a ≤ iI b ↔ a ≤ b := by rw [Int32.le_iff_toInt_le, iI_toInt ha, iI_toInt hb]
theorem iI_eq {a b : Int} (ha : gR a) (hb : gR b) : iI a = iI b ↔ a = b := ⟨fun h => by have := congrArg Int32.toInt h; rwa [iI_toInt ha, iI_toInt hb] at this, fun h => by rw [h]⟩
theorem iI_clamp {a : Int} (h0 : 0 ≤ a) (h1 : a ≤ 2147483647) : (iI a).toNatClampNeg = a.toNat := by
  show (iI a).toInt.toNat = _
  rw [iI_toInt ⟨by omega, h1⟩]
theorem iI_nat (n : Nat) : Int32.ofNat n = iI (n : Int) := (Int32.ofInt_eq_ofNat).symm
theorem gR_0 : gR 0 := ⟨by decide, by decide⟩
theorem iI_in {a : Int} {n : Nat} (h : 0 ≤ a ∧ a < n) (hn : n < 2 ^ 31) : vp_in (iI a) n := by
  have hr : gR a := ⟨by omega, by omega⟩
  rintro (q | q)
  · rw [show (0 : Int32) = iI 0 from rfl, iI_lt hr gR_0] at q
    omega
  · rw [iI_clamp h.1 (by omega)] at q
    omega
theorem iI_div {a b : Int} (ha : 0 ≤ a ∧ a ≤ 2147483647) (hb : 0 < b ∧ b ≤ 2147483647) : iI a / iI b = iI (a / b) := by
  have h1 : iI (a.tdiv b) = iI a / iI b := Int32.ofInt_tdiv (by show (-2147483648 : Int) ≤ a; omega) (by show a ≤ (2147483647 : Int); omega) (by show (-2147483648 : Int) ≤ b; omega) (by show b ≤ (2147483647 : Int); omega)
  rw [← h1, Int.tdiv_eq_ediv_of_nonneg ha.1]
theorem iI_rem {a b : Int} (ha : 0 ≤ a ∧ a ≤ 2147483647) (hb : 0 < b ∧ b ≤ 2147483647) : iI a - iI a / iI b * iI b = iI (a % b) := by
  rw [iI_div ha hb, iI_mul, iI_sub]
  congr 1
  have := Int.emod_add_ediv_mul a b
  omega
theorem iI_ne0 {b : Int} (hb : 0 < b ∧ b ≤ 2147483647) : ¬ iI b = 0 := by
  rw [show (0 : Int32) = iI 0 from rfl, iI_eq ⟨by omega, hb.2⟩ gR_0]
  omega
def su (f : Int → Int) (i v : Int) : Int → Int := fun j => if j = i then v else f j
theorem su_upd {f : Int → Int} {i v : Int} (h : 0 ≤ i) (h2 : i ≤ 2147483647) : upd (fun j : Nat => iI (f (j : Int))) (iI i).toNatClampNeg (iI v) = fun j : Nat => iI (su f i v (j : Int)) := by
  rw [iI_clamp h h2]
  funext j
  show (if j = i.toNat then iI v else iI (f j)) = iI (if (j : Int) = i then v else f j)
  by_cases q : j = i.toNat
  · rw [if_pos q, if_pos (by omega)]
  · rw [if_neg q, if_neg (by omega)]
theorem iI_mask (a : Int) (n : Nat) (hn : n = 1 ∨ n = 3 ∨ n = 5 ∨ n = 6 ∨ n = 31) : iI a &&& iI (2 ^ n - 1) = iI (a % 2 ^ n) := by
  refine Int32.toBitVec.inj ?_
  show (BitVec.ofInt 32 a &&& BitVec.ofInt 32 (2 ^ n - 1)) = BitVec.ofInt 32 (a % 2 ^ n)
  refine BitVec.eq_of_toNat_eq ?_
  rw [BitVec.toNat_and, BitVec.toNat_ofInt, BitVec.toNat_ofInt, BitVec.toNat_ofInt]
  have h := Nat.and_two_pow_sub_one_eq_mod (a % ((2 ^ 32 : Nat) : Int)).toNat n
  have h2 : (((2 : Int) ^ n - 1) % ((2 ^ 32 : Nat) : Int)).toNat = 2 ^ n - 1 := by rcases hn with rfl | rfl | rfl | rfl | rfl <;> rfl
  rw [h2, h]
  rcases hn with rfl | rfl | rfl | rfl | rfl <;> omega
theorem iI_sh31 {k : Int} (hk : 0 ≤ k ∧ k ≤ 31) : ((iI k &&& 31).toBitVec.smod 32).toNat = k.toNat := by
  have h := iI_mask k 5 (by omega)
  rw [show iI (2 ^ 5 - 1) = (31 : Int32) from rfl] at h
  rw [h, show k % 2 ^ 5 = k by omega]
  obtain ⟨n, rfl⟩ := Int.eq_ofNat_of_zero_le hk.1
  have key : ∀ n : Nat, n < 32 → ((iI (n : Int)).toBitVec.smod 32).toNat = n := by decide +kernel
  exact key n (by omega)
theorem iI_shl {a k : Int} (hk : 0 ≤ k ∧ k ≤ 31) : iI a <<< (iI k &&& 31) = iI (a * 2 ^ k.toNat) := by
  refine Int32.toBitVec.inj ?_
  rw [Int32.toBitVec_shiftLeft, BitVec.shiftLeft_eq', iI_sh31 hk]
  show BitVec.ofInt 32 a <<< k.toNat = BitVec.ofInt 32 (a * 2 ^ k.toNat)
  refine BitVec.eq_of_toNat_eq ?_
  rw [BitVec.toNat_shiftLeft, BitVec.toNat_ofInt, BitVec.toNat_ofInt, Nat.shiftLeft_eq]
  refine Int.ofNat.inj ?_
  show (((a % ((2 ^ 32 : Nat) : Int)).toNat * 2 ^ k.toNat % 2 ^ 32 : Nat) : Int) = (((a * 2 ^ k.toNat) % ((2 ^ 32 : Nat) : Int)).toNat : Int)
  rw [Int.natCast_emod, Int.natCast_mul, Int.toNat_of_nonneg (Int.emod_nonneg _ (by decide)), Int.toNat_of_nonneg (Int.emod_nonneg _ (by decide)), Int.natCast_pow, Int.mul_emod, Int.emod_emod, ← Int.mul_emod]
  rfl
theorem iI_shr {a k : Int} (ha : gR a) (hk : 0 ≤ k ∧ k ≤ 31) : iI a >>> (iI k &&& 31) = iI (a / 2 ^ k.toNat) := by
  refine Int32.toInt_inj.mp ?_
  have hp : (0 : Int) < 2 ^ k.toNat := Int.pow_pos (by decide)
  have hb : gR (a / 2 ^ k.toNat) := by
    unfold gR at ha ⊢
    refine ⟨?_, ?_⟩
    · by_cases h : 0 ≤ a
      · have := Int.ediv_nonneg h (Int.le_of_lt hp)
        omega
      · have := Int.le_ediv_of_mul_le (a := -2147483648) (b := a) hp (by
          have : (-2147483648 : Int) * 2 ^ k.toNat ≤ -2147483648 * 1 := Int.mul_le_mul_of_nonpos_left (by decide) (by omega)
          omega)
        omega
    · by_cases h : 0 ≤ a
      · have := Int.ediv_le_self (2 ^ k.toNat) h
        omega
      · have := Int.ediv_neg_of_neg_of_pos (by omega : a < 0) hp
        omega
  rw [iI_toInt hb, ← Int32.toInt_toBitVec, Int32.toBitVec_shiftRight, BitVec.sshiftRight_eq', iI_sh31 hk, BitVec.toInt_sshiftRight, Int32.toInt_toBitVec, iI_toInt ha, Int.shiftRight_eq_div_pow]
  rw [Int.natCast_pow]
  rfl
def gor (a b : Int) : Int := ((a.toNat ||| b.toNat : Nat) : Int)
def gxor (a b : Int) : Int := ((a.toNat ^^^ b.toNat : Nat) : Int)
theorem iI_or {a b : Int} (ha : 0 ≤ a ∧ a ≤ 2147483647) (hb : 0 ≤ b ∧ b ≤ 2147483647) : iI a ||| iI b = iI (gor a b) := by
  refine Int32.toBitVec.inj ?_
  show (BitVec.ofInt 32 a ||| BitVec.ofInt 32 b) = BitVec.ofInt 32 (gor a b)
  refine BitVec.eq_of_toNat_eq ?_
  rw [BitVec.toNat_or, BitVec.toNat_ofInt, BitVec.toNat_ofInt, BitVec.toNat_ofInt]
  have h1 : (a % ((2 ^ 32 : Nat) : Int)).toNat = a.toNat := by omega
  have h2 : (b % ((2 ^ 32 : Nat) : Int)).toNat = b.toNat := by omega
  have h3 : a.toNat ||| b.toNat < 2 ^ 31 := Nat.or_lt_two_pow (by omega) (by omega)
  rw [h1, h2]
  unfold gor
  omega
theorem iI_xor {a b : Int} (ha : 0 ≤ a ∧ a ≤ 2147483647) (hb : 0 ≤ b ∧ b ≤ 2147483647) : iI a ^^^ iI b = iI (gxor a b) := by
  refine Int32.toBitVec.inj ?_
  show (BitVec.ofInt 32 a ^^^ BitVec.ofInt 32 b) = BitVec.ofInt 32 (gxor a b)
  refine BitVec.eq_of_toNat_eq ?_
  rw [BitVec.toNat_xor, BitVec.toNat_ofInt, BitVec.toNat_ofInt, BitVec.toNat_ofInt]
  have h1 : (a % ((2 ^ 32 : Nat) : Int)).toNat = a.toNat := by omega
  have h2 : (b % ((2 ^ 32 : Nat) : Int)).toNat = b.toNat := by omega
  have h3 : a.toNat ^^^ b.toNat < 2 ^ 31 := Nat.xor_lt_two_pow (by omega) (by omega)
  rw [h1, h2]
  unfold gxor
  omega
/-! worlds -/
def gA (cy : ClassId) (n : Nat) (f : Int → Int) : va_E := .inl (cy, n, .inl (fun j : Nat => iI (f (j : Int))))
def wT (y : MethodName) (cc : ByteArray) (n : Nat) (r : Option FieldType) : List Cond := .code y cc n r :: gT
def gPre (D : va_G) (cy : ClassId) (sz : Nat) (B : va_W) (U : State) : Prop := U.heap.size = sz ∧ va_P D vwCl B U.heap ∧ va_K D vwCl [(cy, .int)] U ∧ va_D (fun _ => True) B
def gPreR (D : va_G) (cy : ClassId) (sz : Nat) (B : va_W) (U : State) : Prop := U.heap.size = sz ∧ va_P D vwCl B U.heap ∧ va_K D vwCl [(cy, .int)] U
def gPo (D : va_G) (A : Nat → Prop) (B : va_W) (t : State) : Prop := va_P D vwCl B t.heap ∧ va_D A B
def MetR (l : Launch) (y : MethodName) (ws : List Cond) (rm : Room) (D : va_G) (cy : ClassId) (av : List Value) (B : va_W) (Q : Int → Prop) : Prop :=
  ∀ sz : Nat, Met l y ws rm (va_Pc av (gPreR D cy sz B)) (va_Qi (fun r (u : Int) => r = iI u ∧ Q u) (fun _ _ => True) (va_A [] sz)) 0 0 (va_A [] sz)
def MetV {S : Type} (l : Launch) (y : MethodName) (ws : List Cond) (rm : Room) (D : va_G) (cy : ClassId) (av : List Value) (B : va_W) (B' : S → va_W) (Q : S → Prop) : Prop :=
  ∀ sz : Nat, Met l y ws rm (va_Pc av (gPre D cy sz B)) (va_Qv Q (fun u t => gPo D (va_A B sz) (B' u) t) (va_A B sz)) 0 0 (va_A B sz)
def MetI {S : Type} (l : Launch) (y : MethodName) (ws : List Cond) (rm : Room) (D : va_G) (cy : ClassId) (av : List Value) (B : va_W) (B' : S → va_W) (Q : Int → S → Prop) : Prop :=
  ∀ sz : Nat, Met l y ws rm (va_Pc av (gPre D cy sz B)) (va_Qi (fun r (u : Int × S) => r = iI u.1 ∧ Q u.1 u.2) (fun u t => gPo D (va_A B sz) (B' u.2) t) (va_A B sz)) 0 0 (va_A B sz)
theorem gPre_blind {D : va_G} {cy : ClassId} {sz : Nat} {B : va_W} {av : List Value} : FrameBlind (va_Pc av (gPre D cy sz B)) := fun a U g mk q => by
  obtain ⟨q0, q1, qP, qK, qD⟩ := q
  exact ⟨q0, q1, qP, va_K.moved (u := U) (U := U.calling g mk a) (Vm.Alike.refl U.vm) qK, qD⟩
theorem gPreR_blind {D : va_G} {cy : ClassId} {sz : Nat} {B : va_W} {av : List Value} : FrameBlind (va_Pc av (gPreR D cy sz B)) := fun a U g mk q => by
  obtain ⟨q0, q1, qP, qK⟩ := q
  exact ⟨q0, q1, qP, va_K.moved (u := U) (U := U.calling g mk a) (Vm.Alike.refl U.vm) qK⟩
set_option maxHeartbeats 1000000 in
theorem gI_R {l : Launch} {y : MethodName} {D : va_G} {cy : ClassId} {av : List Value} {B : va_W} {cc : ByteArray} {maxL : Nat} {rt : FieldType} {rm : Room} {Q : Int → Prop} (hy : plainName y.cls = true) (hlen : (lg_sl av).length ≤ maxL)
    (body : ∀ (p : Program) (e : Env) (s : State) (m : MethodId) (args : Array Value) (below : List Frame) (meth : Method) (c : Code) (A : Nat → Prop) (Qg : State → Prop), CallFix p m c cc maxL s args gT y.cls → va_K D vwCl [(cy, .int)] s → (∀ q : Nat, s.heap.size ≤ q → A q) →
      (∀ (u : Int) (H : Heap) (locs : List Loc) (pc : Nat) (ls : Array Slot), Q u → narrow rt (.int (iI u)) = .int (iI u) → va_S A s.heap H locs → decode cc pc = .ok (.ireturn, 1) → W p l e rm s m args below meth c H locs 0 0 Qg (F0 m pc ls [.int (iI u)])) →
      ∀ (H : Heap) (locs : List Loc) (ls : Array Slot), lv_has ls maxL (lv_args 0 av) → va_P D vwCl B H → va_S A s.heap H locs → W p l e rm s m args below meth c H locs 0 0 Qg (F0 m 0 ls [])) : MetR l y (wT y cc maxL (some rt)) rm D cy av B Q := by
  intro sz
  refine Met.ofW (cc := cc) (maxL := maxL) (ret := some rt) hy rfl ?_
  intro p e s m args below meth c s₁ X hml hv
  obtain ⟨rfl, hsz, hP, hK⟩ := hv
  subst hsz
  have F : CallFix p m c cc maxL s av.toArray gT y.cls := ⟨X.exec, X.bytes, hml, findClass_of_methodNamed X.named, fun w hw => atoms_spec (ws := wT y cc maxL (some rt)) X.pre w (List.mem_cons_of_mem _ hw)⟩
  have hr := X.returns
  have hlocks := X.notSynchronized
  rw [lg_entry_eq]
  refine body p e s m av.toArray below meth c (va_A [] s.heap.size) _ F hK (fun q h => Or.inr h) ?_ s.heap [] _ (lv_entry av hlen) hP va_S.rf
  intro u H locs pc ls hu hn hS hdg
  exact W.zret F.1 F.2.1 hr hn (fun t ht hW => ⟨⟨iI u, u, rfl, ⟨rfl, hu⟩, trivial⟩, hS.F ht⟩) hS.2.2 hdg
set_option maxHeartbeats 1000000 in
theorem gI_V {S : Type} {l : Launch} {y : MethodName} {D : va_G} {cy : ClassId} {av : List Value} {B : va_W} {B' : S → va_W} {cc : ByteArray} {maxL : Nat} {rm : Room} {Q : S → Prop} (hy : plainName y.cls = true) (hlen : (lg_sl av).length ≤ maxL)
    (body : ∀ (p : Program) (e : Env) (s : State) (m : MethodId) (args : Array Value) (below : List Frame) (meth : Method) (c : Code) (A : Nat → Prop) (Qg : State → Prop), CallFix p m c cc maxL s args gT y.cls → va_K D vwCl [(cy, .int)] s → (∀ q : Nat, s.heap.size ≤ q → A q) →
      (∀ (u : S) (H : Heap) (locs : List Loc) (pc : Nat) (ls : Array Slot), Q u → va_P D vwCl (B' u) H → va_D A (B' u) → va_S A s.heap H locs → decode cc pc = .ok (.return_, 1) → W p l e rm s m args below meth c H locs 0 0 Qg (F0 m pc ls [])) →
      ∀ (H : Heap) (locs : List Loc) (ls : Array Slot), lv_has ls maxL (lv_args 0 av) → va_P D vwCl B H → va_D A B → va_S A s.heap H locs → W p l e rm s m args below meth c H locs 0 0 Qg (F0 m 0 ls [])) : MetV l y (wT y cc maxL none) rm D cy av B B' Q := by
  intro sz
  refine Met.ofW (cc := cc) (maxL := maxL) (ret := none) hy rfl ?_
  intro p e s m args below meth c s₁ X hml hv
  obtain ⟨rfl, hsz, hP, hK, hD0⟩ := hv
  subst hsz
  have F : CallFix p m c cc maxL s av.toArray gT y.cls := ⟨X.exec, X.bytes, hml, findClass_of_methodNamed X.named, fun w hw => atoms_spec (ws := wT y cc maxL none) X.pre w (List.mem_cons_of_mem _ hw)⟩
  have hr := X.returns
  have hlocks := X.notSynchronized
  rw [lg_entry_eq]
  refine body p e s m av.toArray below meth c (va_A B s.heap.size) _ F hK (fun q h => Or.inr h) ?_ s.heap [] _ (lv_entry av hlen) hP hD0.self va_S.rf
  intro u H locs pc ls hu hP1 hD1 hS hdg
  exact W.vret F.1 F.2.1 hr (fun t ht hW => ⟨⟨u, rfl, hu, by refine ⟨?_, hD1⟩; rw [ht]; exact hP1⟩, hS.F ht⟩) hS.2.2 hdg
set_option maxHeartbeats 1000000 in
theorem gI_I {S : Type} {l : Launch} {y : MethodName} {D : va_G} {cy : ClassId} {av : List Value} {B : va_W} {B' : S → va_W} {cc : ByteArray} {maxL : Nat} {rt : FieldType} {rm : Room} {Q : Int → S → Prop} (hy : plainName y.cls = true) (hlen : (lg_sl av).length ≤ maxL)
    (body : ∀ (p : Program) (e : Env) (s : State) (m : MethodId) (args : Array Value) (below : List Frame) (meth : Method) (c : Code) (A : Nat → Prop) (Qg : State → Prop), CallFix p m c cc maxL s args gT y.cls → va_K D vwCl [(cy, .int)] s → (∀ q : Nat, s.heap.size ≤ q → A q) →
      (∀ (r : Int) (u : S) (H : Heap) (locs : List Loc) (pc : Nat) (ls : Array Slot), Q r u → narrow rt (.int (iI r)) = .int (iI r) → va_P D vwCl (B' u) H → va_D A (B' u) → va_S A s.heap H locs → decode cc pc = .ok (.ireturn, 1) → W p l e rm s m args below meth c H locs 0 0 Qg (F0 m pc ls [.int (iI r)])) →
      ∀ (H : Heap) (locs : List Loc) (ls : Array Slot), lv_has ls maxL (lv_args 0 av) → va_P D vwCl B H → va_D A B → va_S A s.heap H locs → W p l e rm s m args below meth c H locs 0 0 Qg (F0 m 0 ls [])) : MetI l y (wT y cc maxL (some rt)) rm D cy av B B' Q := by
  intro sz
  refine Met.ofW (cc := cc) (maxL := maxL) (ret := some rt) hy rfl ?_
  intro p e s m args below meth c s₁ X hml hv
  obtain ⟨rfl, hsz, hP, hK, hD0⟩ := hv
  subst hsz
  have F : CallFix p m c cc maxL s av.toArray gT y.cls := ⟨X.exec, X.bytes, hml, findClass_of_methodNamed X.named, fun w hw => atoms_spec (ws := wT y cc maxL (some rt)) X.pre w (List.mem_cons_of_mem _ hw)⟩
  have hr := X.returns
  have hlocks := X.notSynchronized
  rw [lg_entry_eq]
  refine body p e s m av.toArray below meth c (va_A B s.heap.size) _ F hK (fun q h => Or.inr h) ?_ s.heap [] _ (lv_entry av hlen) hP hD0.self va_S.rf
  intro r u H locs pc ls hu hn hP1 hD1 hS hdg
  exact W.zret F.1 F.2.1 hr hn (fun t ht hW => ⟨⟨iI r, (r, u), rfl, ⟨rfl, hu⟩, by refine ⟨?_, hD1⟩; rw [ht]; exact hP1⟩, hS.F ht⟩) hS.2.2 hdg
section GV
variable {p : Program} {l : Launch} {e : Env} {R : Room} {s : State} {m : MethodId} {args : Array Value} {below : List Frame} {meth : Method} {c : Code} {H : Heap} {locs : List Loc} {cells slots : Nat} {Q : State → Prop}
variable {cc : ByteArray} {nL : Nat} {own : String} {pc : Nat} {ls : Array Slot} {rest : List Value} {D : va_G} {cy : ClassId} {A : Nat → Prop} {H0 : Heap} {ws : va_W}
theorem gv_name {a : Int} (k : ∀ x : Int, x = a → W p l e R s m args below meth c H locs cells slots Q (F0 m pc ls (.int (iI x) :: rest))) : W p l e R s m args below meth c H locs cells slots Q (F0 m pc ls (.int (iI a) :: rest)) := k a rfl
theorem gv_iconst (F : CallFix p m c cc nL s args gT own) {n : Int} (hdg : decode cc pc = .ok (.iconst n, 1)) (k : W p l e R s m args below meth c H locs cells slots Q (F0 m (pc + 1) ls (.int (iI n) :: rest))) : W p l e R s m args below meth c H locs cells slots Q (F0 m pc ls rest) := lv_iconst F.1 F.2.1 hdg rfl k
theorem gv_bipush (F : CallFix p m c cc nL s args gT own) {n : Int} (hn : -128 ≤ n ∧ n ≤ 127) (hdg : decode cc pc = .ok (.bipush n, 2)) (k : W p l e R s m args below meth c H locs cells slots Q (F0 m (pc + 2) ls (.int (iI n) :: rest))) : W p l e R s m args below meth c H locs cells slots Q (F0 m pc ls rest) := lv_bipush F.1 F.2.1 hdg (by rw [← Int32.ofInt_int8ToInt, Int8.toInt_ofInt_of_le (by omega) (by omega)]; rfl) k
theorem gv_sipush (F : CallFix p m c cc nL s args gT own) {n : Int} (hn : -32768 ≤ n ∧ n ≤ 32767) (hdg : decode cc pc = .ok (.sipush n, 3)) (k : W p l e R s m args below meth c H locs cells slots Q (F0 m (pc + 3) ls (.int (iI n) :: rest))) : W p l e R s m args below meth c H locs cells slots Q (F0 m pc ls rest) := lv_sipush F.1 F.2.1 hdg (by rw [← Int32.ofInt_int16ToInt, Int16.toInt_ofInt_of_le (by omega) (by omega)]; rfl) k
theorem gv_ldc (F : CallFix p m c cc nL s args gT own) {n : Int} {v : Int32} {idx : Nat} (hw : Cond.constant own idx v ∈ gT) (hv : v = iI n) (hdg : decode cc pc = .ok (.ldc idx, 2)) (k : W p l e R s m args below meth c H locs cells slots Q (F0 m (pc + 2) ls (.int (iI n) :: rest))) : W p l e R s m args below meth c H locs cells slots Q (F0 m pc ls rest) := lv_ldc F.1 F.2.1 F.2.2.2.1 (F.2.2.2.2 _ hw) hdg (by rw [hv]; exact k)
theorem gv_ldcw (F : CallFix p m c cc nL s args gT own) {n : Int} {v : Int32} {idx : Nat} (hw : Cond.constant own idx v ∈ gT) (hv : v = iI n) (hdg : decode cc pc = .ok (.ldc_w idx, 3)) (k : W p l e R s m args below meth c H locs cells slots Q (F0 m (pc + 3) ls (.int (iI n) :: rest))) : W p l e R s m args below meth c H locs cells slots Q (F0 m pc ls rest) := lv_ldcw F.1 F.2.1 F.2.2.2.1 (F.2.2.2.2 _ hw) hdg (by rw [hv]; exact k)
theorem gv_iadd (F : CallFix p m c cc nL s args gT own) {a b : Int} (hdg : decode cc pc = .ok (.iadd, 1)) (k : W p l e R s m args below meth c H locs cells slots Q (F0 m (pc + 1) ls (.int (iI (a + b)) :: rest))) : W p l e R s m args below meth c H locs cells slots Q (F0 m pc ls (.int (iI b) :: .int (iI a) :: rest)) := lv_iadd F.1 F.2.1 hdg (by rw [iI_add a b]; exact k)
theorem gv_isub (F : CallFix p m c cc nL s args gT own) {a b : Int} (hdg : decode cc pc = .ok (.isub, 1)) (k : W p l e R s m args below meth c H locs cells slots Q (F0 m (pc + 1) ls (.int (iI (a - b)) :: rest))) : W p l e R s m args below meth c H locs cells slots Q (F0 m pc ls (.int (iI b) :: .int (iI a) :: rest)) := lv_isub F.1 F.2.1 hdg (by rw [iI_sub a b]; exact k)
theorem gv_imul (F : CallFix p m c cc nL s args gT own) {a b : Int} (hdg : decode cc pc = .ok (.imul, 1)) (k : W p l e R s m args below meth c H locs cells slots Q (F0 m (pc + 1) ls (.int (iI (a * b)) :: rest))) : W p l e R s m args below meth c H locs cells slots Q (F0 m pc ls (.int (iI b) :: .int (iI a) :: rest)) := lv_imul F.1 F.2.1 hdg (by rw [iI_mul a b]; exact k)
theorem gv_ineg (F : CallFix p m c cc nL s args gT own) {a : Int} (hdg : decode cc pc = .ok (.ineg, 1)) (k : W p l e R s m args below meth c H locs cells slots Q (F0 m (pc + 1) ls (.int (iI (-a)) :: rest))) : W p l e R s m args below meth c H locs cells slots Q (F0 m pc ls (.int (iI a) :: rest)) := lv_ineg F.1 F.2.1 hdg (by rw [iI_neg]; exact k)
theorem gv_idiv (F : CallFix p m c cc nL s args gT own) {a b : Int} (hc : (0 ≤ a ∧ a ≤ 2147483647) ∧ 0 < b ∧ b ≤ 2147483647) (hdg : decode cc pc = .ok (.idiv, 1)) (k : W p l e R s m args below meth c H locs cells slots Q (F0 m (pc + 1) ls (.int (iI (a / b)) :: rest))) : W p l e R s m args below meth c H locs cells slots Q (F0 m pc ls (.int (iI b) :: .int (iI a) :: rest)) := lv_idiv F.1 F.2.1 hdg (iI_ne0 hc.2) (by rw [iI_div hc.1 hc.2]; exact k)
theorem gv_irem (F : CallFix p m c cc nL s args gT own) {a b : Int} (hc : (0 ≤ a ∧ a ≤ 2147483647) ∧ 0 < b ∧ b ≤ 2147483647) (hdg : decode cc pc = .ok (.irem, 1)) (k : W p l e R s m args below meth c H locs cells slots Q (F0 m (pc + 1) ls (.int (iI (a % b)) :: rest))) : W p l e R s m args below meth c H locs cells slots Q (F0 m pc ls (.int (iI b) :: .int (iI a) :: rest)) := lv_irem F.1 F.2.1 hdg (iI_ne0 hc.2) (by rw [iI_rem hc.1 hc.2]; exact k)
theorem gv_ishl (F : CallFix p m c cc nL s args gT own) {a b : Int} (hc : 0 ≤ b ∧ b ≤ 31) (hdg : decode cc pc = .ok (.ishl, 1)) (k : W p l e R s m args below meth c H locs cells slots Q (F0 m (pc + 1) ls (.int (iI (a * 2 ^ b.toNat)) :: rest))) : W p l e R s m args below meth c H locs cells slots Q (F0 m pc ls (.int (iI b) :: .int (iI a) :: rest)) := lv_ishl F.1 F.2.1 hdg (by rw [iI_shl hc]; exact k)
theorem gv_ishr (F : CallFix p m c cc nL s args gT own) {a b : Int} (ha : gR a) (hc : 0 ≤ b ∧ b ≤ 31) (hdg : decode cc pc = .ok (.ishr, 1)) (k : W p l e R s m args below meth c H locs cells slots Q (F0 m (pc + 1) ls (.int (iI (a / 2 ^ b.toNat)) :: rest))) : W p l e R s m args below meth c H locs cells slots Q (F0 m pc ls (.int (iI b) :: .int (iI a) :: rest)) := lv_ishr F.1 F.2.1 hdg (by rw [iI_shr ha hc]; exact k)
theorem gv_iand (F : CallFix p m c cc nL s args gT own) {a b : Int} (n : Nat) (hn : n = 1 ∨ n = 3 ∨ n = 5 ∨ n = 6 ∨ n = 31) (hb : b = 2 ^ n - 1) (hdg : decode cc pc = .ok (.iand, 1)) (k : W p l e R s m args below meth c H locs cells slots Q (F0 m (pc + 1) ls (.int (iI (a % (b + 1))) :: rest))) : W p l e R s m args below meth c H locs cells slots Q (F0 m pc ls (.int (iI b) :: .int (iI a) :: rest)) := lv_iand F.1 F.2.1 hdg (by subst hb; rw [iI_mask a n hn]; rw [Int.sub_add_cancel] at k; exact k)
theorem gv_ior (F : CallFix p m c cc nL s args gT own) {a b : Int} (hc : (0 ≤ a ∧ a ≤ 2147483647) ∧ 0 ≤ b ∧ b ≤ 2147483647) (hdg : decode cc pc = .ok (.ior, 1)) (k : W p l e R s m args below meth c H locs cells slots Q (F0 m (pc + 1) ls (.int (iI (gor a b)) :: rest))) : W p l e R s m args below meth c H locs cells slots Q (F0 m pc ls (.int (iI b) :: .int (iI a) :: rest)) := lv_ior F.1 F.2.1 hdg (by rw [iI_or hc.1 hc.2]; exact k)
theorem gv_ixor (F : CallFix p m c cc nL s args gT own) {a b : Int} (hc : (0 ≤ a ∧ a ≤ 2147483647) ∧ 0 ≤ b ∧ b ≤ 2147483647) (hdg : decode cc pc = .ok (.ixor, 1)) (k : W p l e R s m args below meth c H locs cells slots Q (F0 m (pc + 1) ls (.int (iI (gxor a b)) :: rest))) : W p l e R s m args below meth c H locs cells slots Q (F0 m pc ls (.int (iI b) :: .int (iI a) :: rest)) := lv_ixor F.1 F.2.1 hdg (by rw [iI_xor hc.1 hc.2]; exact k)
theorem gv_iinc (F : CallFix p m c cc nL s args gT own) {i k : Nat} {n a x : Int} {lv lv' : List (Nat × Value)} (hdg : decode cc pc = .ok (.iinc i n, 3)) (h : lv_has ls nL lv) (hk : lv[k]? = some (i, .int (iI a))) (hx : x = a + n) (hn : i < nL) (hl : (i, Value.int (iI x)) :: lv.filter (fun q => !(q.1 == i) && !(q.1 + 1 == i && q.2.category == 2)) = lv')
    (kk : ∀ ls' : Array Slot, lv_has ls' nL lv' → W p l e R s m args below meth c H locs cells slots Q (F0 m (pc + 3) ls' rest)) : W p l e R s m args below meth c H locs cells slots Q (F0 m pc ls rest) := lv_iinc F.1 F.2.1 hdg h hk (by rw [hx]; exact iI_add a n) hn hl kk
theorem gv_icmp_eq (F : CallFix p m c cc nL s args gT own) {a b : Int} (ha : gR a) (hb : gR b) {off : Int} {tgt : Nat} (hdg : decode cc pc = .ok (.if_icmp .eq off, 3)) (ht : (pc : Int) + off = (tgt : Int))
    (kt : a = b → W p l e R s m args below meth c H locs cells slots Q (F0 m tgt ls rest)) (kf : ¬ a = b → W p l e R s m args below meth c H locs cells slots Q (F0 m (pc + 3) ls rest)) : W p l e R s m args below meth c H locs cells slots Q (F0 m pc ls (.int (iI b) :: .int (iI a) :: rest)) := lv_icmp_eq F.1 F.2.1 hdg ht (fun h => kt ((iI_eq ha hb).mp h)) (fun h => kf ((not_congr (iI_eq ha hb)).mp h))
theorem gv_icmp_ne (F : CallFix p m c cc nL s args gT own) {a b : Int} (ha : gR a) (hb : gR b) {off : Int} {tgt : Nat} (hdg : decode cc pc = .ok (.if_icmp .ne off, 3)) (ht : (pc : Int) + off = (tgt : Int))
    (kt : ¬ a = b → W p l e R s m args below meth c H locs cells slots Q (F0 m tgt ls rest)) (kf : a = b → W p l e R s m args below meth c H locs cells slots Q (F0 m (pc + 3) ls rest)) : W p l e R s m args below meth c H locs cells slots Q (F0 m pc ls (.int (iI b) :: .int (iI a) :: rest)) := lv_icmp_ne F.1 F.2.1 hdg ht (fun h => kt ((not_congr (iI_eq ha hb)).mp h)) (fun h => kf ((iI_eq ha hb).mp h))
theorem gv_icmp_lt (F : CallFix p m c cc nL s args gT own) {a b : Int} (ha : gR a) (hb : gR b) {off : Int} {tgt : Nat} (hdg : decode cc pc = .ok (.if_icmp .lt off, 3)) (ht : (pc : Int) + off = (tgt : Int))
    (kt : a < b → W p l e R s m args below meth c H locs cells slots Q (F0 m tgt ls rest)) (kf : ¬ a < b → W p l e R s m args below meth c H locs cells slots Q (F0 m (pc + 3) ls rest)) : W p l e R s m args below meth c H locs cells slots Q (F0 m pc ls (.int (iI b) :: .int (iI a) :: rest)) := lv_icmp_lt F.1 F.2.1 hdg ht (fun h => kt ((iI_lt ha hb).mp h)) (fun h => kf ((not_congr (iI_lt ha hb)).mp h))
theorem gv_icmp_ge (F : CallFix p m c cc nL s args gT own) {a b : Int} (ha : gR a) (hb : gR b) {off : Int} {tgt : Nat} (hdg : decode cc pc = .ok (.if_icmp .ge off, 3)) (ht : (pc : Int) + off = (tgt : Int))
    (kt : b ≤ a → W p l e R s m args below meth c H locs cells slots Q (F0 m tgt ls rest)) (kf : ¬ b ≤ a → W p l e R s m args below meth c H locs cells slots Q (F0 m (pc + 3) ls rest)) : W p l e R s m args below meth c H locs cells slots Q (F0 m pc ls (.int (iI b) :: .int (iI a) :: rest)) := lv_icmp_ge F.1 F.2.1 hdg ht (fun h => kt ((iI_le hb ha).mp h)) (fun h => kf ((not_congr (iI_le hb ha)).mp h))
theorem gv_icmp_gt (F : CallFix p m c cc nL s args gT own) {a b : Int} (ha : gR a) (hb : gR b) {off : Int} {tgt : Nat} (hdg : decode cc pc = .ok (.if_icmp .gt off, 3)) (ht : (pc : Int) + off = (tgt : Int))
    (kt : b < a → W p l e R s m args below meth c H locs cells slots Q (F0 m tgt ls rest)) (kf : ¬ b < a → W p l e R s m args below meth c H locs cells slots Q (F0 m (pc + 3) ls rest)) : W p l e R s m args below meth c H locs cells slots Q (F0 m pc ls (.int (iI b) :: .int (iI a) :: rest)) := lv_icmp_gt F.1 F.2.1 hdg ht (fun h => kt ((iI_lt hb ha).mp h)) (fun h => kf ((not_congr (iI_lt hb ha)).mp h))
theorem gv_icmp_le (F : CallFix p m c cc nL s args gT own) {a b : Int} (ha : gR a) (hb : gR b) {off : Int} {tgt : Nat} (hdg : decode cc pc = .ok (.if_icmp .le off, 3)) (ht : (pc : Int) + off = (tgt : Int))
    (kt : a ≤ b → W p l e R s m args below meth c H locs cells slots Q (F0 m tgt ls rest)) (kf : ¬ a ≤ b → W p l e R s m args below meth c H locs cells slots Q (F0 m (pc + 3) ls rest)) : W p l e R s m args below meth c H locs cells slots Q (F0 m pc ls (.int (iI b) :: .int (iI a) :: rest)) := lv_icmp_le F.1 F.2.1 hdg ht (fun h => kt ((iI_le ha hb).mp h)) (fun h => kf ((not_congr (iI_le ha hb)).mp h))
theorem gv_if_eq (F : CallFix p m c cc nL s args gT own) {a : Int} (ha : gR a) {off : Int} {tgt : Nat} (hdg : decode cc pc = .ok (.ifCond .eq off, 3)) (ht : (pc : Int) + off = (tgt : Int))
    (kt : a = 0 → W p l e R s m args below meth c H locs cells slots Q (F0 m tgt ls rest)) (kf : ¬ a = 0 → W p l e R s m args below meth c H locs cells slots Q (F0 m (pc + 3) ls rest)) : W p l e R s m args below meth c H locs cells slots Q (F0 m pc ls (.int (iI a) :: rest)) := lv_if_eq F.1 F.2.1 hdg ht (fun h => kt ((iI_eq ha gR_0).mp h)) (fun h => kf ((not_congr (iI_eq ha gR_0)).mp h))
theorem gv_if_ne (F : CallFix p m c cc nL s args gT own) {a : Int} (ha : gR a) {off : Int} {tgt : Nat} (hdg : decode cc pc = .ok (.ifCond .ne off, 3)) (ht : (pc : Int) + off = (tgt : Int))
    (kt : ¬ a = 0 → W p l e R s m args below meth c H locs cells slots Q (F0 m tgt ls rest)) (kf : a = 0 → W p l e R s m args below meth c H locs cells slots Q (F0 m (pc + 3) ls rest)) : W p l e R s m args below meth c H locs cells slots Q (F0 m pc ls (.int (iI a) :: rest)) := lv_if_ne F.1 F.2.1 hdg ht (fun h => kt ((not_congr (iI_eq ha gR_0)).mp h)) (fun h => kf ((iI_eq ha gR_0).mp h))
theorem gv_if_lt (F : CallFix p m c cc nL s args gT own) {a : Int} (ha : gR a) {off : Int} {tgt : Nat} (hdg : decode cc pc = .ok (.ifCond .lt off, 3)) (ht : (pc : Int) + off = (tgt : Int))
    (kt : a < 0 → W p l e R s m args below meth c H locs cells slots Q (F0 m tgt ls rest)) (kf : ¬ a < 0 → W p l e R s m args below meth c H locs cells slots Q (F0 m (pc + 3) ls rest)) : W p l e R s m args below meth c H locs cells slots Q (F0 m pc ls (.int (iI a) :: rest)) := lv_if_lt F.1 F.2.1 hdg ht (fun h => kt ((iI_lt ha gR_0).mp h)) (fun h => kf ((not_congr (iI_lt ha gR_0)).mp h))
theorem gv_if_ge (F : CallFix p m c cc nL s args gT own) {a : Int} (ha : gR a) {off : Int} {tgt : Nat} (hdg : decode cc pc = .ok (.ifCond .ge off, 3)) (ht : (pc : Int) + off = (tgt : Int))
    (kt : 0 ≤ a → W p l e R s m args below meth c H locs cells slots Q (F0 m tgt ls rest)) (kf : ¬ 0 ≤ a → W p l e R s m args below meth c H locs cells slots Q (F0 m (pc + 3) ls rest)) : W p l e R s m args below meth c H locs cells slots Q (F0 m pc ls (.int (iI a) :: rest)) := lv_if_ge F.1 F.2.1 hdg ht (fun h => kt ((iI_le gR_0 ha).mp h)) (fun h => kf ((not_congr (iI_le gR_0 ha)).mp h))
theorem gv_if_gt (F : CallFix p m c cc nL s args gT own) {a : Int} (ha : gR a) {off : Int} {tgt : Nat} (hdg : decode cc pc = .ok (.ifCond .gt off, 3)) (ht : (pc : Int) + off = (tgt : Int))
    (kt : 0 < a → W p l e R s m args below meth c H locs cells slots Q (F0 m tgt ls rest)) (kf : ¬ 0 < a → W p l e R s m args below meth c H locs cells slots Q (F0 m (pc + 3) ls rest)) : W p l e R s m args below meth c H locs cells slots Q (F0 m pc ls (.int (iI a) :: rest)) := lv_if_gt F.1 F.2.1 hdg ht (fun h => kt ((iI_lt gR_0 ha).mp h)) (fun h => kf ((not_congr (iI_lt gR_0 ha)).mp h))
theorem gv_if_le (F : CallFix p m c cc nL s args gT own) {a : Int} (ha : gR a) {off : Int} {tgt : Nat} (hdg : decode cc pc = .ok (.ifCond .le off, 3)) (ht : (pc : Int) + off = (tgt : Int))
    (kt : a ≤ 0 → W p l e R s m args below meth c H locs cells slots Q (F0 m tgt ls rest)) (kf : ¬ a ≤ 0 → W p l e R s m args below meth c H locs cells slots Q (F0 m (pc + 3) ls rest)) : W p l e R s m args below meth c H locs cells slots Q (F0 m pc ls (.int (iI a) :: rest)) := lv_if_le F.1 F.2.1 hdg ht (fun h => kt ((iI_le ha gR_0).mp h)) (fun h => kf ((not_congr (iI_le ha gR_0)).mp h))
theorem gv_iald (F : CallFix p m c cc nL s args gT own) (hK : va_K D vwCl [(cy, .int)] s) (hP : va_P D vwCl ws H) (q0 : Nat) {a : Nat} {n : Nat} {g : Int → Int} {i N : Int} (ha : ws[q0]? = some (a, gA cy n g)) (hN : (n : Int) = N) (hn : n < 2 ^ 31) (hi : 0 ≤ i ∧ i < N) (hdg : decode cc pc = .ok (.iaload, 1))
    (k : W p l e R s m args below meth c H locs cells slots Q (F0 m (pc + 1) ls (.int (iI (g i)) :: rest))) : W p l e R s m args below meth c H locs cells slots Q (F0 m pc ls (.int (iI i) :: .ref a :: rest)) := by
  refine va_iald F.1 F.2.1 hK hP q0 0 (f := fun j : Nat => iI (g (j : Int))) ha rfl (iI_in (n := n) (by omega) hn) hdg ?_
  rw [iI_clamp hi.1 (by omega)]
  show W p l e R s m args below meth c H locs cells slots Q (F0 m (pc + 1) ls (.int (iI (g ((i.toNat : Nat) : Int))) :: rest))
  rw [Int.toNat_of_nonneg hi.1]
  exact k
theorem gv_iast (F : CallFix p m c cc nL s args gT own) (hK : va_K D vwCl [(cy, .int)] s) (hP : va_P D vwCl ws H) (hD : va_D A ws) (hS : va_S A H0 H locs) (q0 : Nat) {a : Nat} {n : Nat} {g : Int → Int} {i v N : Int} {ws' : va_W} (ha : ws[q0]? = some (a, gA cy n g)) (hN : (n : Int) = N) (hn : n < 2 ^ 31) (hi : 0 ≤ i ∧ i < N) (heq : ws.set q0 (a, gA cy n (su g i v)) = ws') (hdg : decode cc pc = .ok (.iastore, 1))
    (k : ∀ (H : Heap) (locs : List Loc), va_P D vwCl ws' H → va_D A ws' → va_S A H0 H locs → W p l e R s m args below meth c H locs cells slots Q (F0 m (pc + 1) ls rest)) : W p l e R s m args below meth c H locs cells slots Q (F0 m pc ls (.int (iI v) :: .int (iI i) :: .ref a :: rest)) := by
  refine va_iast F.1 F.2.1 hK hP hD hS q0 0 (f := fun j : Nat => iI (g (j : Int))) ha rfl (iI_in (n := n) (by omega) hn) hdg (fun H1 locs1 hP1 hD1 hS1 => ?_)
  rw [su_upd hi.1 (by omega)] at hP1 hD1
  subst heq
  exact k H1 locs1 hP1 hD1 hS1
theorem gv_alen (F : CallFix p m c cc nL s args gT own) (hK : va_K D vwCl [(cy, .int)] s) (hP : va_P D vwCl ws H) (q0 : Nat) {a : Nat} {n : Nat} {g : Int → Int} {N : Int} (ha : ws[q0]? = some (a, gA cy n g)) (hN : (n : Int) = N) (hdg : decode cc pc = .ok (.arraylength, 1))
    (k : W p l e R s m args below meth c H locs cells slots Q (F0 m (pc + 1) ls (.int (iI N) :: rest))) : W p l e R s m args below meth c H locs cells slots Q (F0 m pc ls (.ref a :: rest)) := va_alen F.1 F.2.1 hK hP q0 0 (ty := .int) ha rfl (by rw [← hN]; exact iI_nat n) hdg k
theorem gv_get (F : CallFix p m c cc nL s args gT own) {C : String} {T : u_T} {N ci idx : Nat} {tys : List (ClassId × FieldType)} (hin : ∀ w ∈ u_ws C T N, w ∈ gT) (hK : va_K D vwCl tys s) (hP : va_P D vwCl ws H) (q0 : Nat) {a : Nat} {fs : List Value} {v : Value} (he : ws[q0]? = some (a, .inr (ci, fs))) (hc : vwCl[ci]? = some (C, T, N)) (k : Nat) (hk : k < N) (hlink : Cond.fieldLink own idx (T k).1 (T k).2.1 (T k).2.2.1 ∈ gT) (hv : fs[k]? = some v) (hdg : decode cc pc = .ok (.getfield idx, 3))
    (kk : W p l e R s m args below meth c H locs cells slots Q (F0 m (pc + 3) ls (v :: rest))) : W p l e R s m args below meth c H locs cells slots Q (F0 m pc ls (.ref a :: rest)) := va_get F.1 F.2.1 F.2.2.2.2 hin F.2.2.2.1 hK hP q0 he hc k hk (F.2.2.2.2 _ hlink) (fun _ h => h) hv hdg kk
theorem gv_put (F : CallFix p m c cc nL s args gT own) {C : String} {T : u_T} {N ci idx : Nat} {tys : List (ClassId × FieldType)} (hin : ∀ w ∈ u_ws C T N, w ∈ gT) (ty0 : Nat → FieldType) (hty : ∀ k, k < N → parseFieldDescriptor (T k).2.2.1 = some (ty0 k)) (hnm : ∀ a, a < N → ∀ b, b < N → a ≠ b → (T a).2.1 ≠ (T b).2.1) (hK : va_K D vwCl tys s) (hP : va_P D vwCl ws H) (hD : va_D A ws) (hS : va_S A H0 H locs) (q0 : Nat) {a : Nat} {fs : List Value} {v : Value} {ws' : va_W} (he : ws[q0]? = some (a, .inr (ci, fs))) (hc : vwCl[ci]? = some (C, T, N)) (k : Nat) (hk : k < N) (hlink : Cond.fieldLink own idx (T k).1 (T k).2.1 (T k).2.2.1 ∈ gT) (hfin : (T k).2.2.2 = false) {ty : FieldType} (hd : parseFieldDescriptor (T k).2.2.1 = some ty) (hn : narrow ty v = v) (hfit : fits ty v = true) (hl : k < fs.length) (heq : ws.set q0 (a, .inr (ci, fs.set k v)) = ws') (hdg : decode cc pc = .ok (.putfield idx, 3))
    (kk : ∀ (H : Heap) (locs : List Loc), va_P D vwCl ws' H → va_D A ws' → va_S A H0 H locs → W p l e R s m args below meth c H locs cells slots Q (F0 m (pc + 3) ls rest)) : W p l e R s m args below meth c H locs cells slots Q (F0 m pc ls (v :: .ref a :: rest)) := va_put F.1 F.2.1 F.2.2.2.2 hin ty0 hty hnm F.2.2.2.1 hK hP hD hS q0 he hc k hk (F.2.2.2.2 _ hlink) (fun _ h => h) hfin hd hn hfit hl hdg (fun H1 locs1 h1 h2 h3 => by subst heq; exact kk H1 locs1 h1 h2 h3)
set_option maxHeartbeats 1000000 in
theorem gc_VR (F : CallFix p m c cc nL s args gT own) {y : MethodName} {bytes : ByteArray} {maxL n idx : Nat} {ret : Option FieldType} {wy : List Cond} {rm : Room} {B : va_W} {As : List Value} {st0 : List Value} {Qc : Int → Prop} {C : String} {T0 : u_T} {N0 ci b : Nat} {fs : List Value} (hK : va_K D vwCl [(cy, .int)] s) (hA : ∀ q : Nat, H0.size ≤ q → A q) (hP : va_P D vwCl ws H) (hS : va_S A H0 H locs) (hPB : va_P D vwCl B H) (hM : MetR l y wy rm D cy (.ref b :: As) B Qc) (cw : CallW R s args own C idx y bytes maxL ret wy rm 0 0 n) (hb : B[0]? = some (b, .inr (ci, fs))) (hci : vwCl[ci]? = some (C, T0, N0)) (hdg : decode cc pc = .ok (.invokevirtual idx, 3)) (hst : st0 = As.reverse ++ .ref b :: rest) (hn : As.length = n) (hl : ls.size = nL) (hroom : (rest.map fun v => v.category).sum ≤ 8) (hc : cells ≤ R.cells ∧ slots ≤ R.slots)
    (k : ∀ (u : Int) (H : Heap) (locs : List Loc), Qc u → va_P D vwCl ws H → va_S A H0 H locs → W p l e R s m args below meth c H locs cells slots Q (F0 m (pc + 3) ls (.int (iI u) :: rest))) : W p l e R s m args below meth c H locs cells slots Q (F0 m pc ls st0) := by
  have hF : ∀ q : Nat, va_A [] H.size q → A q := fun q h => by
    rcases h with ⟨k2, x, h⟩ | h
    · simp at h
    · exact hA q (Nat.le_trans hS.1 h)
  refine va_calli (va_runV (As := As) (rest := rest) F (hM H.size) cw ⟨gPreR_blind, va_recv hK hPB hci hb, fun U hU hW => ⟨rfl, by rw [hU], by rw [hU]; exact hPB, va_K.moved hW.alike hK⟩⟩ rfl hn hl hst (lv_room hroom) hdg ⟨hc.1, hc.2⟩) hS (fun q _ h => hF q h) hF (fun r u t H1 locs1 ht hvm hp _ hz hk hS1 => ?_)
  obtain ⟨rfl, hq⟩ := hp
  exact k u H1 locs1 hq (hP.kept (fun i q hi => hk q.1 (hP i q hi).lt (fun h => by
    rcases h with ⟨k2, x, h⟩ | h
    · simp at h
    · exact absurd (hP i q hi).lt (Nat.not_lt.mpr h)))) hS1
set_option maxHeartbeats 1000000 in
theorem gc_VV (F : CallFix p m c cc nL s args gT own) {S : Type} {y : MethodName} {bytes : ByteArray} {maxL n idx : Nat} {ret : Option FieldType} {wy : List Cond} {rm : Room} {B : va_W} {As : List Value} {st0 : List Value} {B1 : S → va_W} {Qc : S → Prop} {wn : S → va_W} {C : String} {T0 : u_T} {N0 ci b : Nat} {fs : List Value} (hK : va_K D vwCl [(cy, .int)] s) (hA : ∀ q : Nat, H0.size ≤ q → A q) (hP : va_P D vwCl ws H) (hD : va_D A ws) (hS : va_S A H0 H locs) (hPB : va_P D vwCl B H) (hDB : va_D A B) (hJ : ∀ (u : S) (H1 : Heap), (∀ q : Nat, q < H.size → ¬ va_A B H.size q → H1[q]? = H[q]?) → va_P D vwCl (B1 u) H1 → va_D A (B1 u) → va_P D vwCl (wn u) H1 ∧ va_D A (wn u)) (hM : MetV l y wy rm D cy (.ref b :: As) B B1 Qc) (cw : CallW R s args own C idx y bytes maxL ret wy rm 0 0 n) (hb : B[0]? = some (b, .inr (ci, fs))) (hci : vwCl[ci]? = some (C, T0, N0)) (hdg : decode cc pc = .ok (.invokevirtual idx, 3)) (hst : st0 = As.reverse ++ .ref b :: rest) (hn : As.length = n) (hl : ls.size = nL) (hroom : (rest.map fun v => v.category).sum ≤ 8) (hc : cells ≤ R.cells ∧ slots ≤ R.slots)
    (k : ∀ (u : S) (H : Heap) (locs : List Loc), Qc u → va_P D vwCl (wn u) H → va_D A (wn u) → va_S A H0 H locs → W p l e R s m args below meth c H locs cells slots Q (F0 m (pc + 3) ls rest)) : W p l e R s m args below meth c H locs cells slots Q (F0 m pc ls st0) := by
  have hF : ∀ q : Nat, va_A B H.size q → A q := fun q h => by
    rcases h with ⟨k2, x, h⟩ | h
    · exact hDB.2 k2 _ h
    · exact hA q (Nat.le_trans hS.1 h)
  refine va_callv (va_runV (As := As) (rest := rest) F (hM H.size) cw ⟨gPre_blind, va_recv hK hPB hci hb, fun U hU hW => ⟨rfl, by rw [hU], by rw [hU]; exact hPB, va_K.moved hW.alike hK, hDB.weaken (fun _ _ _ _ => trivial)⟩⟩ rfl hn hl hst (lv_room hroom) hdg ⟨hc.1, hc.2⟩) hS (fun q _ h => hF q h) hF (fun u t H1 locs1 ht hvm hp hb2 hz hk hS1 => ?_)
  obtain ⟨hP1, hD1⟩ := hb2
  rw [ht] at hP1
  obtain ⟨hP2, hD2⟩ := hJ u H1 hk hP1 (hD1.weaken (fun _ q _ h => hF q.1 h))
  exact k u H1 locs1 hp hP2 hD2 hS1
set_option maxHeartbeats 1000000 in
theorem gc_VI (F : CallFix p m c cc nL s args gT own) {S : Type} {y : MethodName} {bytes : ByteArray} {maxL n idx : Nat} {ret : Option FieldType} {wy : List Cond} {rm : Room} {B : va_W} {As : List Value} {st0 : List Value} {B1 : S → va_W} {Qc : Int → S → Prop} {wn : S → va_W} {C : String} {T0 : u_T} {N0 ci b : Nat} {fs : List Value} (hK : va_K D vwCl [(cy, .int)] s) (hA : ∀ q : Nat, H0.size ≤ q → A q) (hP : va_P D vwCl ws H) (hD : va_D A ws) (hS : va_S A H0 H locs) (hPB : va_P D vwCl B H) (hDB : va_D A B) (hJ : ∀ (u : S) (H1 : Heap), (∀ q : Nat, q < H.size → ¬ va_A B H.size q → H1[q]? = H[q]?) → va_P D vwCl (B1 u) H1 → va_D A (B1 u) → va_P D vwCl (wn u) H1 ∧ va_D A (wn u)) (hM : MetI l y wy rm D cy (.ref b :: As) B B1 Qc) (cw : CallW R s args own C idx y bytes maxL ret wy rm 0 0 n) (hb : B[0]? = some (b, .inr (ci, fs))) (hci : vwCl[ci]? = some (C, T0, N0)) (hdg : decode cc pc = .ok (.invokevirtual idx, 3)) (hst : st0 = As.reverse ++ .ref b :: rest) (hn : As.length = n) (hl : ls.size = nL) (hroom : (rest.map fun v => v.category).sum ≤ 8) (hc : cells ≤ R.cells ∧ slots ≤ R.slots)
    (k : ∀ (r : Int) (u : S) (H : Heap) (locs : List Loc), Qc r u → va_P D vwCl (wn u) H → va_D A (wn u) → va_S A H0 H locs → W p l e R s m args below meth c H locs cells slots Q (F0 m (pc + 3) ls (.int (iI r) :: rest))) : W p l e R s m args below meth c H locs cells slots Q (F0 m pc ls st0) := by
  have hF : ∀ q : Nat, va_A B H.size q → A q := fun q h => by
    rcases h with ⟨k2, x, h⟩ | h
    · exact hDB.2 k2 _ h
    · exact hA q (Nat.le_trans hS.1 h)
  refine va_calli (va_runV (As := As) (rest := rest) F (hM H.size) cw ⟨gPre_blind, va_recv hK hPB hci hb, fun U hU hW => ⟨rfl, by rw [hU], by rw [hU]; exact hPB, va_K.moved hW.alike hK, hDB.weaken (fun _ _ _ _ => trivial)⟩⟩ rfl hn hl hst (lv_room hroom) hdg ⟨hc.1, hc.2⟩) hS (fun q _ h => hF q h) hF (fun r u t H1 locs1 ht hvm hp hb2 hz hk hS1 => ?_)
  obtain ⟨hP1, hD1⟩ := hb2
  rw [ht] at hP1
  obtain ⟨hP2, hD2⟩ := hJ u.2 H1 hk hP1 (hD1.weaken (fun _ q _ h => hF q.1 h))
  obtain ⟨rfl, hq⟩ := hp
  exact k u.1 u.2 H1 locs1 hq hP2 hD2 hS1
set_option maxHeartbeats 1000000 in
theorem gc_SR (F : CallFix p m c cc nL s args gT own) {y : MethodName} {bytes : ByteArray} {maxL n idx : Nat} {ret : Option FieldType} {wy : List Cond} {rm : Room} {B : va_W} {As : List Value} {st0 : List Value} {Qc : Int → Prop}  (hK : va_K D vwCl [(cy, .int)] s) (hA : ∀ q : Nat, H0.size ≤ q → A q) (hP : va_P D vwCl ws H) (hS : va_S A H0 H locs) (hPB : va_P D vwCl B H) (hM : MetR l y wy rm D cy As B Qc) (cw : CallB R s args own idx y bytes maxL ret wy rm 0 0 n ∧ (Cond.static y).before args s = true) (hdg : decode cc pc = .ok (.invokestatic idx, 3)) (hst : st0 = As.reverse ++ rest) (hn : As.length = n) (hl : ls.size = nL) (hroom : (rest.map fun v => v.category).sum ≤ 8) (hc : cells ≤ R.cells ∧ slots ≤ R.slots)
    (k : ∀ (u : Int) (H : Heap) (locs : List Loc), Qc u → va_P D vwCl ws H → va_S A H0 H locs → W p l e R s m args below meth c H locs cells slots Q (F0 m (pc + 3) ls (.int (iI u) :: rest))) : W p l e R s m args below meth c H locs cells slots Q (F0 m pc ls st0) := by
  have hF : ∀ q : Nat, va_A [] H.size q → A q := fun q h => by
    rcases h with ⟨k2, x, h⟩ | h
    · simp at h
    · exact hA q (Nat.le_trans hS.1 h)
  refine va_calli (va_runS (As := As) (rest := rest) F (hM H.size) cw ⟨gPreR_blind, fun U hU hW => ⟨rfl, by rw [hU], by rw [hU]; exact hPB, va_K.moved hW.alike hK⟩⟩ rfl hn hl hst (lv_room hroom) hdg ⟨hc.1, hc.2⟩) hS (fun q _ h => hF q h) hF (fun r u t H1 locs1 ht hvm hp _ hz hk hS1 => ?_)
  obtain ⟨rfl, hq⟩ := hp
  exact k u H1 locs1 hq (hP.kept (fun i q hi => hk q.1 (hP i q hi).lt (fun h => by
    rcases h with ⟨k2, x, h⟩ | h
    · simp at h
    · exact absurd (hP i q hi).lt (Nat.not_lt.mpr h)))) hS1
set_option maxHeartbeats 1000000 in
theorem gc_SV (F : CallFix p m c cc nL s args gT own) {S : Type} {y : MethodName} {bytes : ByteArray} {maxL n idx : Nat} {ret : Option FieldType} {wy : List Cond} {rm : Room} {B : va_W} {As : List Value} {st0 : List Value} {B1 : S → va_W} {Qc : S → Prop} {wn : S → va_W}  (hK : va_K D vwCl [(cy, .int)] s) (hA : ∀ q : Nat, H0.size ≤ q → A q) (hP : va_P D vwCl ws H) (hD : va_D A ws) (hS : va_S A H0 H locs) (hPB : va_P D vwCl B H) (hDB : va_D A B) (hJ : ∀ (u : S) (H1 : Heap), (∀ q : Nat, q < H.size → ¬ va_A B H.size q → H1[q]? = H[q]?) → va_P D vwCl (B1 u) H1 → va_D A (B1 u) → va_P D vwCl (wn u) H1 ∧ va_D A (wn u)) (hM : MetV l y wy rm D cy As B B1 Qc) (cw : CallB R s args own idx y bytes maxL ret wy rm 0 0 n ∧ (Cond.static y).before args s = true) (hdg : decode cc pc = .ok (.invokestatic idx, 3)) (hst : st0 = As.reverse ++ rest) (hn : As.length = n) (hl : ls.size = nL) (hroom : (rest.map fun v => v.category).sum ≤ 8) (hc : cells ≤ R.cells ∧ slots ≤ R.slots)
    (k : ∀ (u : S) (H : Heap) (locs : List Loc), Qc u → va_P D vwCl (wn u) H → va_D A (wn u) → va_S A H0 H locs → W p l e R s m args below meth c H locs cells slots Q (F0 m (pc + 3) ls rest)) : W p l e R s m args below meth c H locs cells slots Q (F0 m pc ls st0) := by
  have hF : ∀ q : Nat, va_A B H.size q → A q := fun q h => by
    rcases h with ⟨k2, x, h⟩ | h
    · exact hDB.2 k2 _ h
    · exact hA q (Nat.le_trans hS.1 h)
  refine va_callv (va_runS (As := As) (rest := rest) F (hM H.size) cw ⟨gPre_blind, fun U hU hW => ⟨rfl, by rw [hU], by rw [hU]; exact hPB, va_K.moved hW.alike hK, hDB.weaken (fun _ _ _ _ => trivial)⟩⟩ rfl hn hl hst (lv_room hroom) hdg ⟨hc.1, hc.2⟩) hS (fun q _ h => hF q h) hF (fun u t H1 locs1 ht hvm hp hb2 hz hk hS1 => ?_)
  obtain ⟨hP1, hD1⟩ := hb2
  rw [ht] at hP1
  obtain ⟨hP2, hD2⟩ := hJ u H1 hk hP1 (hD1.weaken (fun _ q _ h => hF q.1 h))
  exact k u H1 locs1 hp hP2 hD2 hS1
set_option maxHeartbeats 1000000 in
theorem gc_SI (F : CallFix p m c cc nL s args gT own) {S : Type} {y : MethodName} {bytes : ByteArray} {maxL n idx : Nat} {ret : Option FieldType} {wy : List Cond} {rm : Room} {B : va_W} {As : List Value} {st0 : List Value} {B1 : S → va_W} {Qc : Int → S → Prop} {wn : S → va_W}  (hK : va_K D vwCl [(cy, .int)] s) (hA : ∀ q : Nat, H0.size ≤ q → A q) (hP : va_P D vwCl ws H) (hD : va_D A ws) (hS : va_S A H0 H locs) (hPB : va_P D vwCl B H) (hDB : va_D A B) (hJ : ∀ (u : S) (H1 : Heap), (∀ q : Nat, q < H.size → ¬ va_A B H.size q → H1[q]? = H[q]?) → va_P D vwCl (B1 u) H1 → va_D A (B1 u) → va_P D vwCl (wn u) H1 ∧ va_D A (wn u)) (hM : MetI l y wy rm D cy As B B1 Qc) (cw : CallB R s args own idx y bytes maxL ret wy rm 0 0 n ∧ (Cond.static y).before args s = true) (hdg : decode cc pc = .ok (.invokestatic idx, 3)) (hst : st0 = As.reverse ++ rest) (hn : As.length = n) (hl : ls.size = nL) (hroom : (rest.map fun v => v.category).sum ≤ 8) (hc : cells ≤ R.cells ∧ slots ≤ R.slots)
    (k : ∀ (r : Int) (u : S) (H : Heap) (locs : List Loc), Qc r u → va_P D vwCl (wn u) H → va_D A (wn u) → va_S A H0 H locs → W p l e R s m args below meth c H locs cells slots Q (F0 m (pc + 3) ls (.int (iI r) :: rest))) : W p l e R s m args below meth c H locs cells slots Q (F0 m pc ls st0) := by
  have hF : ∀ q : Nat, va_A B H.size q → A q := fun q h => by
    rcases h with ⟨k2, x, h⟩ | h
    · exact hDB.2 k2 _ h
    · exact hA q (Nat.le_trans hS.1 h)
  refine va_calli (va_runS (As := As) (rest := rest) F (hM H.size) cw ⟨gPre_blind, fun U hU hW => ⟨rfl, by rw [hU], by rw [hU]; exact hPB, va_K.moved hW.alike hK, hDB.weaken (fun _ _ _ _ => trivial)⟩⟩ rfl hn hl hst (lv_room hroom) hdg ⟨hc.1, hc.2⟩) hS (fun q _ h => hF q h) hF (fun r u t H1 locs1 ht hvm hp hb2 hz hk hS1 => ?_)
  obtain ⟨hP1, hD1⟩ := hb2
  rw [ht] at hP1
  obtain ⟨hP2, hD2⟩ := hJ u.2 H1 hk hP1 (hD1.weaken (fun _ q _ h => hF q.1 h))
  obtain ⟨rfl, hq⟩ := hp
  exact k u.1 u.2 H1 locs1 hq hP2 hD2 hS1
end GV
/-! words of a call -/
theorem gG_V {own : String} {idx : Nat} {C : String} {y : MethodName} {cc : ByteArray} {n : Nat} {r : Option FieldType} (h1 : Cond.methodLink own idx y ∈ gT) (h2 : Cond.instanceMethod y ∈ gT) (h3 : Cond.selects C y y ∈ gT) (h4 : Cond.initialized C ∈ gT) (h5 : Cond.code y cc n r ∈ gT) : GoodIn gT (wsV own idx C y (wT y cc n r)) := by
  have key : ∀ w ∈ gT, w ∈ gT ∧ ((w.onTables && w.keeps) = true ∨ ∃ ty, w = .arrayClass ty) := fun w h => ⟨h, good_of_word (gT_good w h)⟩
  intro w hw
  refine key w ?_
  simp only [wsV, wT, List.mem_append, List.mem_cons, List.not_mem_nil, or_false] at hw
  rcases hw with (rfl | rfl | rfl | rfl) | rfl | h <;> assumption
theorem gG_S {own : String} {idx : Nat} {y : MethodName} {cc : ByteArray} {n : Nat} {r : Option FieldType} (h1 : Cond.methodLink own idx y ∈ gT) (h2 : Cond.static y ∈ gT) (h4 : Cond.initialized own ∈ gT) (h5 : Cond.code y cc n r ∈ gT) : GoodIn gT (wsS own idx y (wT y cc n r)) := by
  have key : ∀ w ∈ gT, w ∈ gT ∧ ((w.onTables && w.keeps) = true ∨ ∃ ty, w = .arrayClass ty) := fun w h => ⟨h, good_of_word (gT_good w h)⟩
  intro w hw
  refine key w ?_
  simp only [wsS, wT, List.mem_append, List.mem_cons, List.not_mem_nil, or_false] at hw
  rcases hw with (rfl | rfl | rfl) | rfl | h <;> assumption
theorem gG_T {own : String} {idx : Nat} {y : MethodName} {cc : ByteArray} {n : Nat} {r : Option FieldType} (h1 : Cond.methodLink own idx y ∈ gT) (h2 : Cond.static y ∈ gT) (h4 : Cond.initialized y.cls ∈ gT) (h5 : Cond.code y cc n r ∈ gT) : GoodIn gT (va_wsS own idx y (wT y cc n r)) := by
  have key : ∀ w ∈ gT, w ∈ gT ∧ ((w.onTables && w.keeps) = true ∨ ∃ ty, w = .arrayClass ty) := fun w h => ⟨h, good_of_word (gT_good w h)⟩
  intro w hw
  refine key w ?_
  simp only [va_wsS, wT, List.mem_append, List.mem_cons, List.not_mem_nil, or_false] at hw
  rcases hw with (rfl | rfl | rfl) | rfl | h <;> assumption
/-! cutting a callee's cells out of a world, and putting them back -/
def gPut (ws : va_W) (is : List Nat) (w1 : va_W) : va_W := (is.zip w1).foldl (fun w q => w.set q.1 q.2) ws
theorem va_D.adr {A : Nat → Prop} {ws ws' : va_W} (hD : va_D A ws) (h : ws'.map Prod.fst = ws.map Prod.fst) : va_D A ws' := by
  have key : ∀ (k : Nat) (q : Nat × va_E), ws'[k]? = some q → ∃ q0, ws[k]? = some q0 ∧ q0.1 = q.1 := by
    intro k q hk
    have h1 : (ws'.map Prod.fst)[k]? = some q.1 := by rw [List.getElem?_map, hk]; rfl
    rw [h, List.getElem?_map] at h1
    cases hw : ws[k]? with
    | none => rw [hw] at h1; cases h1
    | some q0 => rw [hw] at h1; exact ⟨q0, rfl, Option.some.inj h1⟩
  refine ⟨fun i j x y hi hj hxy => ?_, fun k q hk => ?_⟩
  · obtain ⟨x0, h1, h2⟩ := key i x hi
    obtain ⟨y0, h3, h4⟩ := key j y hj
    exact hD.1 i j x0 y0 h1 h3 (h2.trans (hxy.trans h4.symm))
  · obtain ⟨q0, h1, h2⟩ := key k q hk
    rw [← h2]
    exact hD.2 k q0 h1
/-- a world after a call: each of its cells is one of the callee's new ones, or a cell of the old world that none of the callee's is -/
theorem gJoin {A0 : Nat → Prop} {D : va_G} {cl : List vw_C} {ws wc w1 ws' : va_W} {H H1 : Heap} (hP : va_P D cl ws H) (hD : va_D A0 ws) (is : List Nat) (hC : is.map (fun i => ws[i]?) = wc.map some) (hk : ∀ q : Nat, q < H.size → ¬ va_A wc H.size q → H1[q]? = H[q]?) (hP1 : va_P D cl w1 H1)
    (hadr : ws'.map Prod.fst = ws.map Prod.fst) (hnew : is.map (fun i => ws'[i]?) = w1.map some) (hold : ∀ i : Nat, i < ws.length → i ∉ is → ws'[i]? = ws[i]?) : va_P D cl ws' H1 ∧ va_D A0 ws' := by
  refine ⟨fun k q hq => ?_, hD.adr hadr⟩
  have hl : ws'.length = ws.length := by simpa using congrArg List.length hadr
  have hkl : k < ws.length := by rw [← hl]; exact (List.getElem?_eq_some_iff.mp hq).1
  by_cases hi : k ∈ is
  · have h1 : some q ∈ is.map (fun i => ws'[i]?) := List.mem_map.mpr ⟨k, hi, hq⟩
    rw [hnew] at h1
    obtain ⟨q', h2, h3⟩ := List.mem_map.mp h1
    cases h3
    obtain ⟨j, hj⟩ := List.getElem?_of_mem h2
    exact hP1 j q hj
  · have h1 : ws[k]? = some q := by rw [← hold k hkl hi]; exact hq
    have hlt := (hP k q h1).lt
    refine (hP k q h1).kept (hk q.1 hlt (fun h => ?_))
    rcases h with ⟨k2, x, h⟩ | h
    · have h2 : some (q.1, x) ∈ wc.map some := List.mem_map.mpr ⟨_, List.mem_of_getElem? h, rfl⟩
      rw [← hC] at h2
      obtain ⟨i, h3, h4⟩ := List.mem_map.mp h2
      have := hD.1 k i q (q.1, x) h1 h4 rfl
      subst this
      exact hi h3
    · omega
theorem gHold {α : Type} {ws ws' : List α} (is : List Nat) (n : Nat) (hl : ws.length = n) (h : ∀ i ∈ List.range n, i ∉ is → ws'[i]? = ws[i]?) : ∀ i : Nat, i < ws.length → i ∉ is → ws'[i]? = ws[i]? := fun i hi => h i (List.mem_range.mpr (by omega))
