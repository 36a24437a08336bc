section GV2
theorem gArrV {cA : ClassId} {n : Nat} {f g : Nat → Value} (h : ∀ j : Nat, j < n → f j = g j) : arrV cA n f = arrV cA n g := by
  unfold arrV
  have e : (fun j : Fin n => f j.val) = (fun j : Fin n => g j.val) := funext fun j => h j.1 j.2
  rw [e]
variable {p : Program} {l : Launch} {e : Env} {R : Room} {s : State} {m : MethodId} {args : Array Value} {below : List Frame} {meth : Method} {c : Code} {H : Heap} {locs : List Loc} {cells slots : Nat} {Q : State → Prop}
variable {cc : ByteArray} {nL : Nat} {own : String} {pc : Nat} {ls : Array Slot} {rest : List Value} {D : va_G} {cy : ClassId} {A : Nat → Prop} {H0 : Heap} {ws : va_W}
theorem gv_tableIn (F : CallFix p m c cc nL s args gT own) {dflt lo hi : Int} {offs : Array Int} {len : Nat} {a v off : Int} {tgt : Nat} (hg : gR a) (hv : a = v) (h1 : lo ≤ v) (h2 : v ≤ hi) (hdg : decode cc pc = .ok (.tableswitch dflt lo hi offs, len)) (ho : offs[(v - lo).toNat]? = some off) (ht : (pc : Int) + off = (tgt : Int))
    (k : W p l e R s m args below meth c H locs cells slots Q (F0 m tgt ls rest)) : W p l e R s m args below meth c H locs cells slots Q (F0 m pc ls (.int (iI a) :: rest)) := by
  subst hv
  refine lv_tableIn F.1 F.2.1 hdg ?_ ?_ (off := off) ?_ ht k
  · rw [iI_toInt hg]; omega
  · rw [iI_toInt hg]; omega
  · rw [iI_toInt hg]; exact ho
theorem gv_tableOut (F : CallFix p m c cc nL s args gT own) {dflt lo hi : Int} {offs : Array Int} {len : Nat} {a : Int} {tgt : Nat} (hg : gR a) (h : a < lo ∨ hi < a) (hdg : decode cc pc = .ok (.tableswitch dflt lo hi offs, len)) (ht : (pc : Int) + dflt = (tgt : Int))
    (k : W p l e R s m args below meth c H locs cells slots Q (F0 m tgt ls rest)) : W p l e R s m args below meth c H locs cells slots Q (F0 m pc ls (.int (iI a) :: rest)) := lv_tableOut F.1 F.2.1 hdg (by rw [iI_toInt hg]; exact h) ht k
theorem gv_lookup (F : CallFix p m c cc nL s args gT own) {dflt : Int} {ps : Array (Int × Int)} {len : Nat} {a off : Int} {tgt : Nat} (hg : gR a) (hdg : decode cc pc = .ok (.lookupswitch dflt ps, len)) (hp : (ps.toList.zip (ps.toList.drop 1)).all (fun (a, next) => a.1 < next.1) = true) (ho : Op.lookupswitch.offset ps.toList dflt a = off) (ht : (pc : Int) + off = (tgt : Int))
    (k : W p l e R s m args below meth c H locs cells slots Q (F0 m tgt ls rest)) : W p l e R s m args below meth c H locs cells slots Q (F0 m pc ls (.int (iI a) :: rest)) := lv_lookup F.1 F.2.1 hdg hp (by rw [iI_toInt hg]; exact ho) ht k
theorem gv_mmin (F : CallFix p m c cc nL s args gT own) {idx : Nat} (hlk : Cond.methodLink own idx Lib.Math.min.name ∈ gT) {a b : Int} (ha : gR a) (hb : gR b) (hl : ls.size = nL) (hfr : 1 ≤ R.frames) (hlo : (rest.map fun v => v.category).sum + 13 ≤ R.locals) (hc : cells ≤ R.cells ∧ slots ≤ R.slots) (hdg : decode cc pc = .ok (.invokestatic idx, 3)) (h1 : Cond.static Lib.Math.min.name ∈ gT) (h2 : Cond.initialized "java/lang/Math" ∈ gT) (h3 : Cond.code Lib.Math.min.name Lib.Math.min.code 2 (some .int) ∈ gT)
    (k : W p l e R s m args below meth c H locs cells slots Q (F0 m (pc + 3) ls (.int (iI (min a b)) :: rest))) : W p l e R s m args below meth c H locs cells slots Q (F0 m pc ls (.int (iI b) :: .int (iI a) :: rest)) := by
  refine va_mmin F.1 F.2.1 (F.2.2.1.trans hl.symm) F.2.2.2.1 (F.2.2.2.2 _ hlk) (F.2.2.2.2 _ h1) (F.2.2.2.2 _ h2) (F.2.2.2.2 _ h3) hfr hlo hc.1 hc.2 hdg ?_
  rw [show (if iI b < iI a then iI b else iI a) = iI (min a b) from by
    by_cases q : b < a
    · rw [if_pos ((iI_lt hb ha).mpr q), show min a b = b by omega]
    · rw [if_neg (fun z => q ((iI_lt hb ha).mp z)), show min a b = a by omega]]
  exact k
/-- a whole row copied over another of the same length -/
theorem gv_acopy (F : CallFix p m c cc nL s args gT own) {idx : Nat} (hlk : Cond.methodLink own idx arraycopyName ∈ gT) (h1 : Cond.native arraycopyName ∈ gT) (h2 : Cond.static arraycopyName ∈ gT) (h3 : Cond.initialized "java/lang/System" ∈ gT) (hK : va_K D vwCl [(cy, .int)] s) (hP : va_P D vwCl ws H) (hD : va_D A ws) (hS : va_S A H0 H locs) (q0 q1 : Nat) {a0 a : Nat} {n : Nat} {f g : AR} {N : Int} {ws' : va_W} (ha0 : ws[q0]? = some (a0, gA cy n f)) (ha1 : ws[q1]? = some (a, gA cy n g)) (hN : (n : Int) = N) (hn : n < 2 ^ 31) (heq : ws.set q1 (a, gA cy n f) = ws') (hl : ls.size = nL) (hfr : 1 ≤ R.frames) (hlo : (rest.map fun v => v.category).sum + (nativeFrameWords "java/lang/System" "arraycopy" 5 + 11) ≤ R.locals) (hdg : decode cc pc = .ok (.invokestatic idx, 3))
    (k : ∀ (H : Heap) (locs : List Loc), va_P D vwCl ws' H → va_D A ws' → va_S A H0 H locs → W p l e R s m args below meth c H locs cells slots Q (F0 m (pc + 3) ls rest)) : W p l e R s m args below meth c H locs cells slots Q (F0 m pc ls (.int (iI N) :: .int (iI 0) :: .ref a :: .int (iI 0) :: .ref a0 :: rest)) := by
  have hNR : gR N := ⟨by omega, by omega⟩
  have e0 : (iI 0).toNatClampNeg = 0 := rfl
  have eN : (iI N).toNatClampNeg = n := by rw [iI_clamp (by omega) (by omega)]; omega
  have z0 : ¬ iI 0 < 0 := by decide
  have zN : ¬ iI N < 0 := by rw [show (0 : Int32) = iI 0 from rfl, iI_lt hNR gR_0]; omega
  refine va_copyi F.1 F.2.1 (F.2.2.1.trans hl.symm) F.2.2.2.1 (F.2.2.2.2 _ hlk) (F.2.2.2.2 _ h1) (F.2.2.2.2 _ h2) (F.2.2.2.2 _ h3) hK hP hD hS q0 q1 0 0 (n0 := n) (n1 := n) (f := fun j : Nat => iI (f (j : Int))) (g := fun j : Nat => iI (g (j : Int))) ha0 ha1 rfl rfl rfl z0 z0 zN (by rw [e0, eN]; omega) (by rw [e0, eN]; omega) (fun i _ => rfl) hfr hlo hdg (fun H1 locs1 hP1 hD1 hS1 => ?_)
  subst heq
  refine k H1 locs1 ?_ (hD.adr ?_) hS1
  · intro i q hi
    by_cases hq : i = q1
    · subst hq
      have hlen := (List.getElem?_eq_some_iff.mp ha1).1
      rw [List.getElem?_set_self hlen] at hi
      cases hi
      have h9 := hP1 i _ (List.getElem?_set_self hlen)
      rw [e0, eN] at h9
      have h10 : H1[a]? = some (vp_cell cy (n, .inl (va_cpy (fun j : Nat => iI (f (j : Int))) (fun j : Nat => iI (g (j : Int))) 0 0 n))) := h9
      show H1[a]? = some (vp_cell cy (n, .inl (fun j : Nat => iI (f (j : Int)))))
      rw [h10]
      congr 1
      rw [vp_cell_i, vp_cell_i]
      exact gArrV (fun j hj => by
        show Value.int (va_cpy _ _ 0 0 n j) = _
        rw [show va_cpy (fun j : Nat => iI (f (j : Int))) (fun j : Nat => iI (g (j : Int))) 0 0 n j = iI (f (j : Int)) from by
          unfold va_cpy
          rw [if_pos ⟨by omega, by omega⟩]
          simp])
    · rw [List.getElem?_set_ne (Ne.symm hq)] at hi
      exact hP1 i q (by rw [List.getElem?_set_ne (Ne.symm hq)]; exact hi)
  · rw [List.map_set]
    refine List.ext_getElem? (fun i => ?_)
    by_cases hq : q1 = i
    · subst hq
      have hlen := (List.getElem?_eq_some_iff.mp ha1).1
      rw [List.getElem?_set_self (by simpa using hlen), List.getElem?_map, ha1]
      rfl
    · rw [List.getElem?_set_ne hq]
end GV2
theorem wGh_stN {cy : ClassId} {aO aL aN aT aK aI : Nat → Nat} {o rw rf lg sg : AR} {N T K I : MS} (c : Nat) (hc : 2 ≤ c ∧ c ≤ 14) (n : Nat) (hn : n = if c ≤ 3 then 49 else if c ≤ 7 then 8 else if c ≤ 12 then 5 else 40) (i v : Int) : (wGh cy aO aL aN aT aK aI o rw rf lg sg N T K I).set (5 + c) (aN c, gA cy n (su (N c) i v)) = wGh cy aO aL aN aT aK aI o rw rf lg sg (st N c i v) T K I := by
  rw [wGh_N, wGh_N, ← wMu_st c hc n hn i v]
  have hl : (wMu cy aN N).length = 15 := rfl
  rw [List.set_append_right _ _ (by simp [wLe, wMu]; try omega), List.set_append_left _ _ (by simp [wLe, wMu]; try omega)]
  congr 3
  simp [wLe, wMu]; try omega
theorem wGh_stT {cy : ClassId} {aO aL aN aT aK aI : Nat → Nat} {o rw rf lg sg : AR} {N T K I : MS} (c : Nat) (hc : 2 ≤ c ∧ c ≤ 14) (n : Nat) (hn : n = if c ≤ 3 then 49 else if c ≤ 7 then 8 else if c ≤ 12 then 5 else 40) (i v : Int) : (wGh cy aO aL aN aT aK aI o rw rf lg sg N T K I).set (20 + c) (aT c, gA cy n (su (T c) i v)) = wGh cy aO aL aN aT aK aI o rw rf lg sg N (st T c i v) K I := by
  rw [wGh_T, wGh_T, ← wMu_st c hc n hn i v]
  have hl : (wMu cy aT T).length = 15 := rfl
  rw [List.set_append_right _ _ (by simp [wLe, wMu]; try omega), List.set_append_left _ _ (by simp [wLe, wMu]; try omega)]
  congr 3
  simp [wLe, wMu]; try omega
theorem wGh_o4 {cy : ClassId} {aO aL aN aT aK aI : Nat → Nat} {o rw rf lg sg : AR} {N T K I : MS} {v : Int} {fs : List Value} (hf : fs = [.ref (aN 0), .ref (aT 0), .ref (aK 0), .ref (aI 0), .int (iI (o 4)), .ref (aL 0), .ref (aO 1), .int (iI (o 7)), .ref (aO 2)]) : (wGh cy aO aL aN aT aK aI o rw rf lg sg N T K I).set 0 (aO 0, .inr (3, fs.set 4 (.int (iI v)))) = wGh cy aO aL aN aT aK aI (su o 4 v) rw rf lg sg N T K I := by
  subst hf
  simp [wGh, eGh, su]
theorem wGh_o7 {cy : ClassId} {aO aL aN aT aK aI : Nat → Nat} {o rw rf lg sg : AR} {N T K I : MS} {v : Int} {fs : List Value} (hf : fs = [.ref (aN 0), .ref (aT 0), .ref (aK 0), .ref (aI 0), .int (iI (o 4)), .ref (aL 0), .ref (aO 1), .int (iI (o 7)), .ref (aO 2)]) : (wGh cy aO aL aN aT aK aI o rw rf lg sg N T K I).set 0 (aO 0, .inr (3, fs.set 7 (.int (iI v)))) = wGh cy aO aL aN aT aK aI (su o 7 v) rw rf lg sg N T K I := by
  subst hf
  simp [wGh, eGh, su]
theorem wMu_o1 {cy : ClassId} {ad : Nat → Nat} {M : MS} {v : Int} {fs : List Value} (hf : eMu ad M = .inr (1, fs)) : (wMu cy ad M).set 0 (ad 0, .inr (1, fs.set 1 (.int (iI v)))) = wMu cy ad (st M 0 1 v) := by
  cases hf
  simp [wMu, eMu, su, st, uc]
theorem wMu_o2 {cy : ClassId} {ad : Nat → Nat} {M : MS} {v : Int} {fs : List Value} (hf : eMu ad M = .inr (1, fs)) : (wMu cy ad M).set 0 (ad 0, .inr (1, fs.set 2 (.int (iI v)))) = wMu cy ad (st M 0 2 v) := by
  cases hf
  simp [wMu, eMu, su, st, uc]
theorem wMu_o7 {cy : ClassId} {ad : Nat → Nat} {M : MS} {v : Int} {fs : List Value} (hf : eMu ad M = .inr (1, fs)) : (wMu cy ad M).set 0 (ad 0, .inr (1, fs.set 7 (.int (iI v)))) = wMu cy ad (st M 0 7 v) := by
  cases hf
  simp [wMu, eMu, su, st, uc]
theorem wLe_o1 {cy : ClassId} {ad : Nat → Nat} {lg sg : AR} {v : Int} {fs : List Value} (hf : eLe ad lg = .inr (0, fs)) : (wLe cy ad lg sg).set 0 (ad 0, .inr (0, fs.set 1 (.int (iI v)))) = wLe cy ad (su lg 1 v) sg := by
  cases hf
  simp [wLe, eLe, su]
theorem wMd_o4 {cy : ClassId} {ad : Nat → Nat} {o s m im wa le ro re fa nu : AR} {v : Int} {fs : List Value} (hf : eMd ad o = .inr (4, fs)) : (wMd cy ad o s m im wa le ro re fa nu).set 0 (ad 0, .inr (4, fs.set 4 (.int (iI v)))) = wMd cy ad (su o 4 v) s m im wa le ro re fa nu := by
  cases hf
  simp [wMd, eMd, su]
theorem wMd_o8 {cy : ClassId} {ad : Nat → Nat} {o s m im wa le ro re fa nu : AR} {v : Int} {fs : List Value} (hf : eMd ad o = .inr (4, fs)) : (wMd cy ad o s m im wa le ro re fa nu).set 0 (ad 0, .inr (4, fs.set 8 (.int (iI v)))) = wMd cy ad (su o 8 v) s m im wa le ro re fa nu := by
  cases hf
  simp [wMd, eMd, su]
theorem wMd_o9 {cy : ClassId} {ad : Nat → Nat} {o s m im wa le ro re fa nu : AR} {v : Int} {fs : List Value} (hf : eMd ad o = .inr (4, fs)) : (wMd cy ad o s m im wa le ro re fa nu).set 0 (ad 0, .inr (4, fs.set 9 (.int (iI v)))) = wMd cy ad (su o 9 v) s m im wa le ro re fa nu := by
  cases hf
  simp [wMd, eMd, su]
theorem wMd_o11 {cy : ClassId} {ad : Nat → Nat} {o s m im wa le ro re fa nu : AR} {v : Int} {fs : List Value} (hf : eMd ad o = .inr (4, fs)) : (wMd cy ad o s m im wa le ro re fa nu).set 0 (ad 0, .inr (4, fs.set 11 (.int (iI v)))) = wMd cy ad (su o 11 v) s m im wa le ro re fa nu := by
  cases hf
  simp [wMd, eMd, su]
theorem wMd_o13 {cy : ClassId} {ad : Nat → Nat} {o s m im wa le ro re fa nu : AR} {v : Int} {fs : List Value} (hf : eMd ad o = .inr (4, fs)) : (wMd cy ad o s m im wa le ro re fa nu).set 0 (ad 0, .inr (4, fs.set 13 (.int (iI v)))) = wMd cy ad (su o 13 v) s m im wa le ro re fa nu := by
  cases hf
  simp [wMd, eMd, su]
theorem wMd_o14 {cy : ClassId} {ad : Nat → Nat} {o s m im wa le ro re fa nu : AR} {v : Int} {fs : List Value} (hf : eMd ad o = .inr (4, fs)) : (wMd cy ad o s m im wa le ro re fa nu).set 0 (ad 0, .inr (4, fs.set 14 (.int (iI v)))) = wMd cy ad (su o 14 v) s m im wa le ro re fa nu := by
  cases hf
  simp [wMd, eMd, su]
theorem wMd_o15 {cy : ClassId} {ad : Nat → Nat} {o s m im wa le ro re fa nu : AR} {v : Int} {fs : List Value} (hf : eMd ad o = .inr (4, fs)) : (wMd cy ad o s m im wa le ro re fa nu).set 0 (ad 0, .inr (4, fs.set 15 (.int (iI v)))) = wMd cy ad (su o 15 v) s m im wa le ro re fa nu := by
  cases hf
  simp [wMd, eMd, su]
theorem wMd_o16 {cy : ClassId} {ad : Nat → Nat} {o s m im wa le ro re fa nu : AR} {v : Int} {fs : List Value} (hf : eMd ad o = .inr (4, fs)) : (wMd cy ad o s m im wa le ro re fa nu).set 0 (ad 0, .inr (4, fs.set 16 (.int (iI v)))) = wMd cy ad (su o 16 v) s m im wa le ro re fa nu := by
  cases hf
  simp [wMd, eMd, su]
