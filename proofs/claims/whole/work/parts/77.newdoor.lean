/-! a door more: which is best -/
def mOpn (N : MS) (a b : Int) : AR := su (su (N 2) ((a * 7) + b) 1) ((b * 7) + a) 1
noncomputable def mDoorT (N : MS) (a b : Int) : Int := mTillAll (uc (uc (mThink N) 2 (mOpn N a b)) 3 (mFarB (mOpn N a b)))
noncomputable def mDoorR (N : MS) (a : Int) : Nat → Int → Int × Int → Int × Int
  | 0, _, s => s
  | n + 1, b, s => mDoorR N a n (b + 1) (if N 2 (a * 7 + b) = 1 then s else if mDoorT N a b < s.1 then (mDoorT N a b, 10 * a + b) else s)
noncomputable def mDoorF (N : MS) : Nat → Int → Int × Int → Int × Int
  | 0, _, s => s
  | n + 1, a, s => mDoorF N n (a + 1) (mDoorR N a (6 - a).toNat (a + 1) s)
theorem doorT_any {N : MS} (hw : wf N) {a b : Int} (ha : 0 ≤ a ∧ a < 7) (hb : 0 ≤ b ∧ b < 7) (hab : ¬ a = b) {f : AR} (hf : wfR (mOpn N a b) f) : mTillAll (uc (uc (mThink N) 2 (mOpn N a b)) 3 f) = mDoorT N a b := by
  have ho : wfO (mOpn N a b) := wfO_set (wfO_of hw) ha hb hab (Or.inr rfl)
  have hc := mFarB_is ho
  have e : uc (uc (mThink N) 2 (mOpn N a b)) 3 f = uc (uc (uc (mThink N) 2 (mOpn N a b)) 3 (mFarB (mOpn N a b))) 3 f := by
    funext c j
    by_cases h : c = 3
    · subst h; rfl
    · simp [uc, h]
  rw [e]
  exact tillAll_far 100 _ (wf_doors (wf_think hw) hc) (fun x t x0 x1 t0 t1 => far_one hf hc x0 x1 t0 t1)
