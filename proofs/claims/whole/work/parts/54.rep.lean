/-! the reference's row and the class's museum -/
def Rep (M : MS) (r : AR) : Prop := r 0 = M 0 2 ∧ r 1 = M 0 7 ∧ r 2 = M 0 1 ∧
  (∀ a b : Int, 0 ≤ a → a < 7 → 0 ≤ b → b < 7 → (0 ≤ r (3 + a) ∧ r (3 + a) ≤ 127) ∧ (r (3 + a) / 2 ^ b.toNat) % (1 + 1) = M 2 (a * 7 + b)) ∧
  (∀ q : Int, 0 ≤ q → q < M 0 2 → r ((10 + (4 * q)) + 0) = M 4 q ∧ r ((10 + (4 * q)) + 1) = M 5 q ∧ r ((10 + (4 * q)) + 2) = M 6 q ∧ r ((10 + (4 * q)) + 3) = M 7 q) ∧
  (∀ g : Int, 0 ≤ g → g < M 0 7 → r ((42 + (5 * g)) + 0) = M 8 g ∧ r ((42 + (5 * g)) + 1) = M 9 g ∧ r ((42 + (5 * g)) + 2) = M 10 g ∧ r ((42 + (5 * g)) + 3) = M 11 g ∧ r ((42 + (5 * g)) + 4) = M 12 g) ∧
  (∀ g q : Int, 0 ≤ g → g < M 0 7 → 0 ≤ q → q < M 0 2 → r ((67 + (8 * g)) + q) = M 13 (g * 8 + q))
def RepF (M : MS) (r : AR) : Prop := ∀ g q : Int, 0 ≤ g → g < M 0 7 → 0 ≤ q → q < M 0 2 → r ((107 + (8 * g)) + q) = M 14 (g * 8 + q)
theorem Rep.d {M : MS} {r : AR} (h : Rep M r) {a b : Int} (a0 : 0 ≤ a) (a1 : a < 7) (b0 : 0 ≤ b) (b1 : b < 7) : (0 ≤ r (3 + a) ∧ r (3 + a) ≤ 127) ∧ (r (3 + a) / 2 ^ b.toNat) % (1 + 1) = M 2 (a * 7 + b) := h.2.2.2.1 a b a0 a1 b0 b1
theorem Rep.q {M : MS} {r : AR} (h : Rep M r) {q : Int} (q0 : 0 ≤ q) (q1 : q < M 0 2) : r ((10 + (4 * q)) + 0) = M 4 q ∧ r ((10 + (4 * q)) + 1) = M 5 q ∧ r ((10 + (4 * q)) + 2) = M 6 q ∧ r ((10 + (4 * q)) + 3) = M 7 q := h.2.2.2.2.1 q q0 q1
theorem Rep.g {M : MS} {r : AR} (h : Rep M r) {g : Int} (g0 : 0 ≤ g) (g1 : g < M 0 7) : r ((42 + (5 * g)) + 0) = M 8 g ∧ r ((42 + (5 * g)) + 1) = M 9 g ∧ r ((42 + (5 * g)) + 2) = M 10 g ∧ r ((42 + (5 * g)) + 3) = M 11 g ∧ r ((42 + (5 * g)) + 4) = M 12 g := h.2.2.2.2.2.1 g g0 g1
theorem Rep.s {M : MS} {r : AR} (h : Rep M r) {g q : Int} (g0 : 0 ≤ g) (g1 : g < M 0 7) (q0 : 0 ≤ q) (q1 : q < M 0 2) : r ((67 + (8 * g)) + q) = M 13 (g * 8 + q) := h.2.2.2.2.2.2 g q g0 g1 q0 q1
theorem Rep.st8 {M : MS} {r : AR} (hw : wf M) (h : Rep M r) {g : Int} (g0 : 0 ≤ g) (g1 : g < M 0 7) (v : Int) : Rep (st M 8 g v) (su r ((42 + (5 * g)) + 0) v) := by
  have hgs := hw.gs
  have hqs := hw.qs
  refine ⟨?_, ?_, ?_, fun a b a0 a1 b0 b1 => ?_, fun k k0 k1 => ?_, fun k k0 k1 => ?_, fun k j k0 k1 j0 j1 => ?_⟩
  · rw [su_ne _ _ (by omega)]; exact h.1
  · rw [su_ne _ _ (by omega)]; exact h.2.1
  · rw [su_ne _ _ (by omega)]; exact h.2.2.1
  · rw [su_ne _ _ (by omega)]; exact h.d a0 a1 b0 b1
  · have k1 : k < M 0 2 := k1
    rw [su_ne _ _ (by omega), su_ne _ _ (by omega), su_ne _ _ (by omega), su_ne _ _ (by omega)]; exact h.q k0 k1
  · have k1 : k < M 0 7 := k1
    have h1 := h.g k0 k1
    refine ⟨?_, ?_, ?_, ?_, ?_⟩
    · show _ = su (M 8) g v k
      unfold su
      by_cases e : k = g
      · subst e; rw [if_pos rfl, if_pos rfl]
      · rw [if_neg (by omega), if_neg e]; exact h1.1
    · rw [su_ne _ _ (by omega)]; exact h1.2.1
    · rw [su_ne _ _ (by omega)]; exact h1.2.2.1
    · rw [su_ne _ _ (by omega)]; exact h1.2.2.2.1
    · rw [su_ne _ _ (by omega)]; exact h1.2.2.2.2
  · have k1 : k < M 0 7 := k1
    have j1 : j < M 0 2 := j1
    rw [su_ne _ _ (by omega)]; exact h.s k0 k1 j0 j1
theorem Rep.st9 {M : MS} {r : AR} (hw : wf M) (h : Rep M r) {g : Int} (g0 : 0 ≤ g) (g1 : g < M 0 7) (v : Int) : Rep (st M 9 g v) (su r ((42 + (5 * g)) + 1) v) := by
  have hgs := hw.gs
  have hqs := hw.qs
  refine ⟨?_, ?_, ?_, fun a b a0 a1 b0 b1 => ?_, fun k k0 k1 => ?_, fun k k0 k1 => ?_, fun k j k0 k1 j0 j1 => ?_⟩
  · rw [su_ne _ _ (by omega)]; exact h.1
  · rw [su_ne _ _ (by omega)]; exact h.2.1
  · rw [su_ne _ _ (by omega)]; exact h.2.2.1
  · rw [su_ne _ _ (by omega)]; exact h.d a0 a1 b0 b1
  · have k1 : k < M 0 2 := k1
    rw [su_ne _ _ (by omega), su_ne _ _ (by omega), su_ne _ _ (by omega), su_ne _ _ (by omega)]; exact h.q k0 k1
  · have k1 : k < M 0 7 := k1
    have h1 := h.g k0 k1
    refine ⟨?_, ?_, ?_, ?_, ?_⟩
    · rw [su_ne _ _ (by omega)]; exact h1.1
    · show _ = su (M 9) g v k
      unfold su
      by_cases e : k = g
      · subst e; rw [if_pos rfl, if_pos rfl]
      · rw [if_neg (by omega), if_neg e]; exact h1.2.1
    · rw [su_ne _ _ (by omega)]; exact h1.2.2.1
    · rw [su_ne _ _ (by omega)]; exact h1.2.2.2.1
    · rw [su_ne _ _ (by omega)]; exact h1.2.2.2.2
  · have k1 : k < M 0 7 := k1
    have j1 : j < M 0 2 := j1
    rw [su_ne _ _ (by omega)]; exact h.s k0 k1 j0 j1
theorem Rep.st10 {M : MS} {r : AR} (hw : wf M) (h : Rep M r) {g : Int} (g0 : 0 ≤ g) (g1 : g < M 0 7) (v : Int) : Rep (st M 10 g v) (su r ((42 + (5 * g)) + 2) v) := by
  have hgs := hw.gs
  have hqs := hw.qs
  refine ⟨?_, ?_, ?_, fun a b a0 a1 b0 b1 => ?_, fun k k0 k1 => ?_, fun k k0 k1 => ?_, fun k j k0 k1 j0 j1 => ?_⟩
  · rw [su_ne _ _ (by omega)]; exact h.1
  · rw [su_ne _ _ (by omega)]; exact h.2.1
  · rw [su_ne _ _ (by omega)]; exact h.2.2.1
  · rw [su_ne _ _ (by omega)]; exact h.d a0 a1 b0 b1
  · have k1 : k < M 0 2 := k1
    rw [su_ne _ _ (by omega), su_ne _ _ (by omega), su_ne _ _ (by omega), su_ne _ _ (by omega)]; exact h.q k0 k1
  · have k1 : k < M 0 7 := k1
    have h1 := h.g k0 k1
    refine ⟨?_, ?_, ?_, ?_, ?_⟩
    · rw [su_ne _ _ (by omega)]; exact h1.1
    · rw [su_ne _ _ (by omega)]; exact h1.2.1
    · show _ = su (M 10) g v k
      unfold su
      by_cases e : k = g
      · subst e; rw [if_pos rfl, if_pos rfl]
      · rw [if_neg (by omega), if_neg e]; exact h1.2.2.1
    · rw [su_ne _ _ (by omega)]; exact h1.2.2.2.1
    · rw [su_ne _ _ (by omega)]; exact h1.2.2.2.2
  · have k1 : k < M 0 7 := k1
    have j1 : j < M 0 2 := j1
    rw [su_ne _ _ (by omega)]; exact h.s k0 k1 j0 j1
theorem Rep.st11 {M : MS} {r : AR} (hw : wf M) (h : Rep M r) {g : Int} (g0 : 0 ≤ g) (g1 : g < M 0 7) (v : Int) : Rep (st M 11 g v) (su r ((42 + (5 * g)) + 3) v) := by
  have hgs := hw.gs
  have hqs := hw.qs
  refine ⟨?_, ?_, ?_, fun a b a0 a1 b0 b1 => ?_, fun k k0 k1 => ?_, fun k k0 k1 => ?_, fun k j k0 k1 j0 j1 => ?_⟩
  · rw [su_ne _ _ (by omega)]; exact h.1
  · rw [su_ne _ _ (by omega)]; exact h.2.1
  · rw [su_ne _ _ (by omega)]; exact h.2.2.1
  · rw [su_ne _ _ (by omega)]; exact h.d a0 a1 b0 b1
  · have k1 : k < M 0 2 := k1
    rw [su_ne _ _ (by omega), su_ne _ _ (by omega), su_ne _ _ (by omega), su_ne _ _ (by omega)]; exact h.q k0 k1
  · have k1 : k < M 0 7 := k1
    have h1 := h.g k0 k1
    refine ⟨?_, ?_, ?_, ?_, ?_⟩
    · rw [su_ne _ _ (by omega)]; exact h1.1
    · rw [su_ne _ _ (by omega)]; exact h1.2.1
    · rw [su_ne _ _ (by omega)]; exact h1.2.2.1
    · show _ = su (M 11) g v k
      unfold su
      by_cases e : k = g
      · subst e; rw [if_pos rfl, if_pos rfl]
      · rw [if_neg (by omega), if_neg e]; exact h1.2.2.2.1
    · rw [su_ne _ _ (by omega)]; exact h1.2.2.2.2
  · have k1 : k < M 0 7 := k1
    have j1 : j < M 0 2 := j1
    rw [su_ne _ _ (by omega)]; exact h.s k0 k1 j0 j1
theorem Rep.st12 {M : MS} {r : AR} (hw : wf M) (h : Rep M r) {g : Int} (g0 : 0 ≤ g) (g1 : g < M 0 7) (v : Int) : Rep (st M 12 g v) (su r ((42 + (5 * g)) + 4) v) := by
  have hgs := hw.gs
  have hqs := hw.qs
  refine ⟨?_, ?_, ?_, fun a b a0 a1 b0 b1 => ?_, fun k k0 k1 => ?_, fun k k0 k1 => ?_, fun k j k0 k1 j0 j1 => ?_⟩
  · rw [su_ne _ _ (by omega)]; exact h.1
  · rw [su_ne _ _ (by omega)]; exact h.2.1
  · rw [su_ne _ _ (by omega)]; exact h.2.2.1
  · rw [su_ne _ _ (by omega)]; exact h.d a0 a1 b0 b1
  · have k1 : k < M 0 2 := k1
    rw [su_ne _ _ (by omega), su_ne _ _ (by omega), su_ne _ _ (by omega), su_ne _ _ (by omega)]; exact h.q k0 k1
  · have k1 : k < M 0 7 := k1
    have h1 := h.g k0 k1
    refine ⟨?_, ?_, ?_, ?_, ?_⟩
    · rw [su_ne _ _ (by omega)]; exact h1.1
    · rw [su_ne _ _ (by omega)]; exact h1.2.1
    · rw [su_ne _ _ (by omega)]; exact h1.2.2.1
    · rw [su_ne _ _ (by omega)]; exact h1.2.2.2.1
    · show _ = su (M 12) g v k
      unfold su
      by_cases e : k = g
      · subst e; rw [if_pos rfl, if_pos rfl]
      · rw [if_neg (by omega), if_neg e]; exact h1.2.2.2.2
  · have k1 : k < M 0 7 := k1
    have j1 : j < M 0 2 := j1
    rw [su_ne _ _ (by omega)]; exact h.s k0 k1 j0 j1
theorem Rep.st4 {M : MS} {r : AR} (hw : wf M) (h : Rep M r) {q : Int} (q0 : 0 ≤ q) (q1 : q < M 0 2) (v : Int) : Rep (st M 4 q v) (su r ((10 + (4 * q)) + 0) v) := by
  have hgs := hw.gs
  have hqs := hw.qs
  refine ⟨?_, ?_, ?_, fun a b a0 a1 b0 b1 => ?_, fun k k0 k1 => ?_, fun k k0 k1 => ?_, fun k j k0 k1 j0 j1 => ?_⟩
  · rw [su_ne _ _ (by omega)]; exact h.1
  · rw [su_ne _ _ (by omega)]; exact h.2.1
  · rw [su_ne _ _ (by omega)]; exact h.2.2.1
  · rw [su_ne _ _ (by omega)]; exact h.d a0 a1 b0 b1
  · have k1 : k < M 0 2 := k1
    have h1 := h.q k0 k1
    refine ⟨?_, ?_, ?_, ?_⟩
    · show _ = su (M 4) q v k
      unfold su
      by_cases e : k = q
      · subst e; rw [if_pos rfl, if_pos rfl]
      · rw [if_neg (by omega), if_neg e]; exact h1.1
    · rw [su_ne _ _ (by omega)]; exact h1.2.1
    · rw [su_ne _ _ (by omega)]; exact h1.2.2.1
    · rw [su_ne _ _ (by omega)]; exact h1.2.2.2
  · have k1 : k < M 0 7 := k1
    rw [su_ne _ _ (by omega), su_ne _ _ (by omega), su_ne _ _ (by omega), su_ne _ _ (by omega), su_ne _ _ (by omega)]; exact h.g k0 k1
  · have k1 : k < M 0 7 := k1
    have j1 : j < M 0 2 := j1
    rw [su_ne _ _ (by omega)]; exact h.s k0 k1 j0 j1
theorem Rep.st5 {M : MS} {r : AR} (hw : wf M) (h : Rep M r) {q : Int} (q0 : 0 ≤ q) (q1 : q < M 0 2) (v : Int) : Rep (st M 5 q v) (su r ((10 + (4 * q)) + 1) v) := by
  have hgs := hw.gs
  have hqs := hw.qs
  refine ⟨?_, ?_, ?_, fun a b a0 a1 b0 b1 => ?_, fun k k0 k1 => ?_, fun k k0 k1 => ?_, fun k j k0 k1 j0 j1 => ?_⟩
  · rw [su_ne _ _ (by omega)]; exact h.1
  · rw [su_ne _ _ (by omega)]; exact h.2.1
  · rw [su_ne _ _ (by omega)]; exact h.2.2.1
  · rw [su_ne _ _ (by omega)]; exact h.d a0 a1 b0 b1
  · have k1 : k < M 0 2 := k1
    have h1 := h.q k0 k1
    refine ⟨?_, ?_, ?_, ?_⟩
    · rw [su_ne _ _ (by omega)]; exact h1.1
    · show _ = su (M 5) q v k
      unfold su
      by_cases e : k = q
      · subst e; rw [if_pos rfl, if_pos rfl]
      · rw [if_neg (by omega), if_neg e]; exact h1.2.1
    · rw [su_ne _ _ (by omega)]; exact h1.2.2.1
    · rw [su_ne _ _ (by omega)]; exact h1.2.2.2
  · have k1 : k < M 0 7 := k1
    rw [su_ne _ _ (by omega), su_ne _ _ (by omega), su_ne _ _ (by omega), su_ne _ _ (by omega), su_ne _ _ (by omega)]; exact h.g k0 k1
  · have k1 : k < M 0 7 := k1
    have j1 : j < M 0 2 := j1
    rw [su_ne _ _ (by omega)]; exact h.s k0 k1 j0 j1
theorem Rep.st6 {M : MS} {r : AR} (hw : wf M) (h : Rep M r) {q : Int} (q0 : 0 ≤ q) (q1 : q < M 0 2) (v : Int) : Rep (st M 6 q v) (su r ((10 + (4 * q)) + 2) v) := by
  have hgs := hw.gs
  have hqs := hw.qs
  refine ⟨?_, ?_, ?_, fun a b a0 a1 b0 b1 => ?_, fun k k0 k1 => ?_, fun k k0 k1 => ?_, fun k j k0 k1 j0 j1 => ?_⟩
  · rw [su_ne _ _ (by omega)]; exact h.1
  · rw [su_ne _ _ (by omega)]; exact h.2.1
  · rw [su_ne _ _ (by omega)]; exact h.2.2.1
  · rw [su_ne _ _ (by omega)]; exact h.d a0 a1 b0 b1
  · have k1 : k < M 0 2 := k1
    have h1 := h.q k0 k1
    refine ⟨?_, ?_, ?_, ?_⟩
    · rw [su_ne _ _ (by omega)]; exact h1.1
    · rw [su_ne _ _ (by omega)]; exact h1.2.1
    · show _ = su (M 6) q v k
      unfold su
      by_cases e : k = q
      · subst e; rw [if_pos rfl, if_pos rfl]
      · rw [if_neg (by omega), if_neg e]; exact h1.2.2.1
    · rw [su_ne _ _ (by omega)]; exact h1.2.2.2
  · have k1 : k < M 0 7 := k1
    rw [su_ne _ _ (by omega), su_ne _ _ (by omega), su_ne _ _ (by omega), su_ne _ _ (by omega), su_ne _ _ (by omega)]; exact h.g k0 k1
  · have k1 : k < M 0 7 := k1
    have j1 : j < M 0 2 := j1
    rw [su_ne _ _ (by omega)]; exact h.s k0 k1 j0 j1
theorem Rep.st7 {M : MS} {r : AR} (hw : wf M) (h : Rep M r) {q : Int} (q0 : 0 ≤ q) (q1 : q < M 0 2) (v : Int) : Rep (st M 7 q v) (su r ((10 + (4 * q)) + 3) v) := by
  have hgs := hw.gs
  have hqs := hw.qs
  refine ⟨?_, ?_, ?_, fun a b a0 a1 b0 b1 => ?_, fun k k0 k1 => ?_, fun k k0 k1 => ?_, fun k j k0 k1 j0 j1 => ?_⟩
  · rw [su_ne _ _ (by omega)]; exact h.1
  · rw [su_ne _ _ (by omega)]; exact h.2.1
  · rw [su_ne _ _ (by omega)]; exact h.2.2.1
  · rw [su_ne _ _ (by omega)]; exact h.d a0 a1 b0 b1
  · have k1 : k < M 0 2 := k1
    have h1 := h.q k0 k1
    refine ⟨?_, ?_, ?_, ?_⟩
    · rw [su_ne _ _ (by omega)]; exact h1.1
    · rw [su_ne _ _ (by omega)]; exact h1.2.1
    · rw [su_ne _ _ (by omega)]; exact h1.2.2.1
    · show _ = su (M 7) q v k
      unfold su
      by_cases e : k = q
      · subst e; rw [if_pos rfl, if_pos rfl]
      · rw [if_neg (by omega), if_neg e]; exact h1.2.2.2
  · have k1 : k < M 0 7 := k1
    rw [su_ne _ _ (by omega), su_ne _ _ (by omega), su_ne _ _ (by omega), su_ne _ _ (by omega), su_ne _ _ (by omega)]; exact h.g k0 k1
  · have k1 : k < M 0 7 := k1
    have j1 : j < M 0 2 := j1
    rw [su_ne _ _ (by omega)]; exact h.s k0 k1 j0 j1
theorem Rep.st13 {M : MS} {r : AR} (hw : wf M) (h : Rep M r) {g q : Int} (g0 : 0 ≤ g) (g1 : g < M 0 7) (q0 : 0 ≤ q) (q1 : q < M 0 2) (v : Int) : Rep (st M 13 (g * 8 + q) v) (su r ((67 + (8 * g)) + q) v) := by
  have hgs := hw.gs
  have hqs := hw.qs
  refine ⟨?_, ?_, ?_, fun a b a0 a1 b0 b1 => ?_, fun k k0 k1 => ?_, fun k k0 k1 => ?_, fun k j k0 k1 j0 j1 => ?_⟩
  · rw [su_ne _ _ (by omega)]; exact h.1
  · rw [su_ne _ _ (by omega)]; exact h.2.1
  · rw [su_ne _ _ (by omega)]; exact h.2.2.1
  · rw [su_ne _ _ (by omega)]; exact h.d a0 a1 b0 b1
  · have k1 : k < M 0 2 := k1
    rw [su_ne _ _ (by omega), su_ne _ _ (by omega), su_ne _ _ (by omega), su_ne _ _ (by omega)]; exact h.q k0 k1
  · have k1 : k < M 0 7 := k1
    rw [su_ne _ _ (by omega), su_ne _ _ (by omega), su_ne _ _ (by omega), su_ne _ _ (by omega), su_ne _ _ (by omega)]; exact h.g k0 k1
  · have k1 : k < M 0 7 := k1
    have j1 : j < M 0 2 := j1
    show _ = su (M 13) (g * 8 + q) v (k * 8 + j)
    unfold su
    by_cases e : k = g ∧ j = q
    · rw [e.1, e.2, if_pos rfl, if_pos rfl]
    · rw [if_neg (by omega), if_neg (by omega)]; exact h.s k0 k1 j0 j1
theorem Rep.st14 {M : MS} {r : AR} (hw : wf M) (h : Rep M r) {g q : Int} (g0 : 0 ≤ g) (g1 : g < M 0 7) (q0 : 0 ≤ q) (q1 : q < M 0 2) (v : Int) : Rep (st M 14 (g * 8 + q) v) (su r ((107 + (8 * g)) + q) v) := by
  have hgs := hw.gs
  have hqs := hw.qs
  refine ⟨?_, ?_, ?_, fun a b a0 a1 b0 b1 => ?_, fun k k0 k1 => ?_, fun k k0 k1 => ?_, fun k j k0 k1 j0 j1 => ?_⟩
  · rw [su_ne _ _ (by omega)]; exact h.1
  · rw [su_ne _ _ (by omega)]; exact h.2.1
  · rw [su_ne _ _ (by omega)]; exact h.2.2.1
  · rw [su_ne _ _ (by omega)]; exact h.d a0 a1 b0 b1
  · have k1 : k < M 0 2 := k1
    rw [su_ne _ _ (by omega), su_ne _ _ (by omega), su_ne _ _ (by omega), su_ne _ _ (by omega)]; exact h.q k0 k1
  · have k1 : k < M 0 7 := k1
    rw [su_ne _ _ (by omega), su_ne _ _ (by omega), su_ne _ _ (by omega), su_ne _ _ (by omega), su_ne _ _ (by omega)]; exact h.g k0 k1
  · have k1 : k < M 0 7 := k1
    have j1 : j < M 0 2 := j1
    rw [su_ne _ _ (by omega)]; exact h.s k0 k1 j0 j1
theorem Rep.st0 {M : MS} {r : AR} (hw : wf M) (h : Rep M r)   (v : Int) : Rep (st M 0 1 v) (su r (2) v) := by
  have hgs := hw.gs
  have hqs := hw.qs
  refine ⟨?_, ?_, ?_, fun a b a0 a1 b0 b1 => ?_, fun k k0 k1 => ?_, fun k k0 k1 => ?_, fun k j k0 k1 j0 j1 => ?_⟩
  · rw [su_ne _ _ (by omega)]; exact h.1
  · rw [su_ne _ _ (by omega)]; exact h.2.1
  · rw [su_at]; exact (st_at M 0 1 v).symm
  · rw [su_ne _ _ (by omega)]; exact h.d a0 a1 b0 b1
  · have k1 : k < M 0 2 := k1
    rw [su_ne _ _ (by omega), su_ne _ _ (by omega), su_ne _ _ (by omega), su_ne _ _ (by omega)]; exact h.q k0 k1
  · have k1 : k < M 0 7 := k1
    rw [su_ne _ _ (by omega), su_ne _ _ (by omega), su_ne _ _ (by omega), su_ne _ _ (by omega), su_ne _ _ (by omega)]; exact h.g k0 k1
  · have k1 : k < M 0 7 := k1
    have j1 : j < M 0 2 := j1
    rw [su_ne _ _ (by omega)]; exact h.s k0 k1 j0 j1
theorem RepF.of {M M' : MS} {r r' : AR} (h : RepF M r) (h0 : M' 0 = M 0) (h1 : M' 14 = M 14) (hr : ∀ i : Int, 107 ≤ i → i < 147 → r' i = r i) (hw : wf M) : RepF M' r' := fun g q g0 g1 q0 q1 => by
  have hgs := hw.gs
  have hqs := hw.qs
  rw [h0] at g1 q1
  rw [hr _ (by omega) (by omega), h1]
  exact h g q g0 g1 q0 q1
theorem RepF.st14 {M : MS} {r : AR} (hw : wf M) (h : RepF M r) {g q : Int} (g0 : 0 ≤ g) (g1 : g < M 0 7) (q0 : 0 ≤ q) (q1 : q < M 0 2) (v : Int) : RepF (st M 14 (g * 8 + q) v) (su r ((107 + (8 * g)) + q) v) := fun k j k0 k1 j0 j1 => by
  have hgs := hw.gs
  have hqs := hw.qs
  have k1 : k < M 0 7 := k1
  have j1 : j < M 0 2 := j1
  show _ = su (M 14) (g * 8 + q) v (k * 8 + j)
  unfold su
  by_cases e : k = g ∧ j = q
  · rw [e.1, e.2, if_pos rfl, if_pos rfl]
  · rw [if_neg (by omega), if_neg (by omega)]; exact h k j k0 k1 j0 j1
theorem RepF.of' {M M' : MS} {r r' : AR} (h : RepF M r) (h0 : M' 0 7 = M 0 7 ∧ M' 0 2 = M 0 2 ∧ M' 14 = M 14) (hr : ∀ i : Int, 107 ≤ i → i < 147 → r' i = r i) (hw : wf M) : RepF M' r' := fun g q g0 g1 q0 q1 => by
  have hgs := hw.gs
  have hqs := hw.qs
  rw [h0.1] at g1
  rw [h0.2.1] at q1
  rw [hr _ (by omega) (by omega), h0.2.2]
  exact h g q g0 g1 q0 q1
