/-! Museum.become, Rooms.become, Arrays.fill, forgetCopies -/
theorem gSetL {ws ws' X : va_W} {i : Nat} {q : Nat × va_E} (h : ws.set i q = ws') (hi : i < ws.length) : (ws ++ X).set i q = ws' ++ X := by
  rw [List.set_append_left _ _ hi, h]
theorem wMu_uc {cy : ClassId} {ad : Nat → Nat} {M : MS} (c : Nat) (hc : 2 ≤ c ∧ c ≤ 14) (n : Nat) (hn : n = if c ≤ 3 then 49 else if c ≤ 7 then 8 else if c ≤ 12 then 5 else 40) (f : AR) : (wMu cy ad M).set c (ad c, gA cy n f) = wMu cy ad (uc M c f) := by
  subst hn
  rcases (show c = 2 ∨ c = 3 ∨ c = 4 ∨ c = 5 ∨ c = 6 ∨ c = 7 ∨ c = 8 ∨ c = 9 ∨ c = 10 ∨ c = 11 ∨ c = 12 ∨ c = 13 ∨ c = 14 by omega) with rfl | rfl | rfl | rfl | rfl | rfl | rfl | rfl | rfl | rfl | rfl | rfl | rfl <;> simp [wMu, eMu, uc]
theorem wMu2_uc {cy : ClassId} {ad : Nat → Nat} {M : MS} (c : Nat) (hc : 2 ≤ c ∧ c ≤ 14) (n : Nat) (hn : n = if c ≤ 3 then 49 else if c ≤ 7 then 8 else if c ≤ 12 then 5 else 40) (f : AR) (X : va_W) : (wMu cy ad M ++ X).set c (ad c, gA cy n f) = wMu cy ad (uc M c f) ++ X := gSetL (wMu_uc c hc n hn f) (by show c < 15; omega)
theorem gDisj {A : Nat → Prop} {X Y : va_W} (h : va_D A (X ++ Y)) : ∀ (i j : Nat) (p q : Nat × va_E), X[i]? = some p → Y[j]? = some q → p.1 ≠ q.1 := by
  intro i j p q hp hq he
  have hi := (List.getElem?_eq_some_iff.mp hp).1
  have h1 : (X ++ Y)[i]? = some p := by rw [List.getElem?_append_left hi]; exact hp
  have h2 : (X ++ Y)[X.length + j]? = some q := by rw [List.getElem?_append_right (by omega), Nat.add_sub_cancel_left]; exact hq
  have := h.1 i _ p q h1 h2 he
  omega
theorem gD_left {A : Nat → Prop} {X Y : va_W} (h : va_D A (X ++ Y)) : va_D A X := gD_mid (pre := []) (B := X) (post := Y) h
theorem gD_right {A : Nat → Prop} {X Y : va_W} (h : va_D A (X ++ Y)) : va_D A Y := gD_mid (pre := X) (B := Y) (post := []) (by rw [List.append_nil]; exact h)
theorem gP_left {D : va_G} {cl : List vw_C} {X Y : va_W} {H : Heap} (h : va_P D cl (X ++ Y) H) : va_P D cl X H := gP_mid (pre := []) (B := X) (post := Y) h
theorem gP_right {D : va_G} {cl : List vw_C} {X Y : va_W} {H : Heap} (h : va_P D cl (X ++ Y) H) : va_P D cl Y H := gP_mid (pre := X) (B := Y) (post := []) (by rw [List.append_nil]; exact h)
theorem gD_two {A : Nat → Prop} {B1 P2 B2 : va_W} (h : va_D A (B1 ++ (P2 ++ B2))) : va_D A (B1 ++ B2) := by
  refine va_D.app (gD_left h) (gD_right (gD_right h)) (fun i j p q hp hq => ?_)
  refine gDisj h i (P2.length + j) p q hp ?_
  rw [List.getElem?_append_right (by omega), Nat.add_sub_cancel_left]
  exact hq
theorem gA_app {X Y : va_W} {sz q : Nat} : va_A (X ++ Y) sz q ↔ va_A X sz q ∨ va_A Y sz q := by
  constructor
  · rintro (⟨k, e, h⟩ | h)
    · rcases List.mem_append.mp (List.mem_of_getElem? h) with h | h
      · obtain ⟨i, hi⟩ := List.getElem?_of_mem h
        exact Or.inl (Or.inl ⟨i, e, hi⟩)
      · obtain ⟨i, hi⟩ := List.getElem?_of_mem h
        exact Or.inr (Or.inl ⟨i, e, hi⟩)
    · exact Or.inl (Or.inr h)
  · rintro ((⟨k, e, h⟩ | h) | (⟨k, e, h⟩ | h))
    · obtain ⟨i, hi⟩ := List.getElem?_of_mem (List.mem_append_left Y (List.mem_of_getElem? h))
      exact Or.inl ⟨i, e, hi⟩
    · exact Or.inr h
    · obtain ⟨i, hi⟩ := List.getElem?_of_mem (List.mem_append_right X (List.mem_of_getElem? h))
      exact Or.inl ⟨i, e, hi⟩
    · exact Or.inr h
/-- two blocks of a world at once -/
theorem gJ_two {A : Nat → Prop} {D : va_G} {cl : List vw_C} {pre B1 P2 B2 post X1 X2 : va_W} {H H1 : Heap} (hP : va_P D cl (pre ++ ((B1 ++ (P2 ++ B2)) ++ post)) H) (hD : va_D A (pre ++ ((B1 ++ (P2 ++ B2)) ++ post))) (hk : ∀ q : Nat, q < H.size → ¬ va_A (B1 ++ B2) H.size q → H1[q]? = H[q]?) (hP1 : va_P D cl (X1 ++ X2) H1) (h1 : X1.map Prod.fst = B1.map Prod.fst) (h2 : X2.map Prod.fst = B2.map Prod.fst) : va_P D cl (pre ++ ((X1 ++ (P2 ++ X2)) ++ post)) H1 ∧ va_D A (pre ++ ((X1 ++ (P2 ++ X2)) ++ post)) := by
  have hDm := gD_mid hD
  have hPm := gP_mid hP
  refine gJ_mid hP hD (fun q hq hn => hk q hq (fun h => hn ?_)) ?_ (by simp only [List.map_append, h1, h2])
  · rcases gA_app.mp h with h | h
    · exact gA_app.mpr (Or.inl h)
    · exact gA_app.mpr (Or.inr (gA_app.mpr (Or.inr h)))
  · refine va_P.app (gP_left hP1) (va_P.app ((gP_left (gP_right hPm)).kept (fun k q hq => ?_)) (gP_right hP1))
    have hl := ((gP_left (gP_right hPm)) k q hq).lt
    refine hk q.1 hl (fun h => ?_)
    rcases gA_app.mp h with (⟨i, e, h⟩ | h) | (⟨i, e, h⟩ | h)
    · have hk2 := (List.getElem?_eq_some_iff.mp hq).1
      exact gDisj hDm i k (q.1, e) q h (by rw [List.getElem?_append_left hk2]; exact hq) rfl
    · omega
    · exact gDisj (gD_right hDm) k i q (q.1, e) hq h rfl
    · omega
theorem gA_swap {X Y : va_W} {sz q : Nat} : va_A (X ++ Y) sz q → va_A (Y ++ X) sz q := fun h => gA_app.mpr ((gA_app.mp h).symm)
theorem wGh_pTN {cy : ClassId} {aO aL aN aT aK aI : Nat → Nat} {o rw rf lg sg : AR} {N T K I : MS} : wGh cy aO aL aN aT aK aI o rw rf lg sg N T K I = ((aO 0, eGh aO aL aN aT aK aI o) :: (aO 1, gA cy 12 rw) :: (aO 2, gA cy 7 rf) :: wLe cy aL lg sg) ++ ((wMu cy aN N ++ (([]) ++ wMu cy aT T)) ++ (wMu cy aK K ++ (wMu cy aI I))) := by
  simp only [wGh, List.cons_append, List.nil_append, List.append_assoc, List.append_nil]
theorem cp_gh_TN {cy : ClassId} {aO aL aN aT aK aI : Nat → Nat} {o rw rf lg sg : AR} {N T K I : MS} {D : va_G} {cl : List vw_C} {H : Heap} (hP : va_P D cl (wGh cy aO aL aN aT aK aI o rw rf lg sg N T K I) H) : va_P D cl (wMu cy aT T ++ wMu cy aN N) H := (cp_gh_T hP).app (cp_gh_N hP)
theorem cd_gh_TN {cy : ClassId} {aO aL aN aT aK aI : Nat → Nat} {o rw rf lg sg : AR} {N T K I : MS} {A : Nat → Prop} (hD : va_D A (wGh cy aO aL aN aT aK aI o rw rf lg sg N T K I)) : va_D A (wMu cy aT T ++ wMu cy aN N) := by
  have h := gD_two (gD_mid (wGh_pTN ▸ hD))
  exact va_D.app (gD_right h) (gD_left h) (fun i j p q hp hq he => gDisj h j i q p hq hp he.symm)
theorem cj_gh_TN {cy : ClassId} {aO aL aN aT aK aI : Nat → Nat} {o rw rf lg sg : AR} {N T K I : MS} {D : va_G} {cl : List vw_C} {H : Heap} {A : Nat → Prop} (hP : va_P D cl (wGh cy aO aL aN aT aK aI o rw rf lg sg N T K I) H) (hD : va_D A (wGh cy aO aL aN aT aK aI o rw rf lg sg N T K I)) (X : MS) (H1 : Heap) (hk : ∀ q : Nat, q < H.size → ¬ va_A (wMu cy aT T ++ wMu cy aN N) H.size q → H1[q]? = H[q]?) (hP1 : va_P D cl (wMu cy aT X ++ wMu cy aN N) H1) : va_P D cl (wGh cy aO aL aN aT aK aI o rw rf lg sg N X K I) H1 ∧ va_D A (wGh cy aO aL aN aT aK aI o rw rf lg sg N X K I) := by
  rw [wGh_pTN] at hP hD ⊢
  exact gJ_two hP hD (fun q h1 h2 => hk q h1 (fun h => h2 (gA_swap h))) ((gP_right hP1).app (gP_left hP1)) rfl rfl
theorem wGh_pKN {cy : ClassId} {aO aL aN aT aK aI : Nat → Nat} {o rw rf lg sg : AR} {N T K I : MS} : wGh cy aO aL aN aT aK aI o rw rf lg sg N T K I = ((aO 0, eGh aO aL aN aT aK aI o) :: (aO 1, gA cy 12 rw) :: (aO 2, gA cy 7 rf) :: wLe cy aL lg sg) ++ ((wMu cy aN N ++ ((wMu cy aT T) ++ wMu cy aK K)) ++ (wMu cy aI I)) := by
  simp only [wGh, List.cons_append, List.nil_append, List.append_assoc, List.append_nil]
theorem cp_gh_KN {cy : ClassId} {aO aL aN aT aK aI : Nat → Nat} {o rw rf lg sg : AR} {N T K I : MS} {D : va_G} {cl : List vw_C} {H : Heap} (hP : va_P D cl (wGh cy aO aL aN aT aK aI o rw rf lg sg N T K I) H) : va_P D cl (wMu cy aK K ++ wMu cy aN N) H := (cp_gh_K hP).app (cp_gh_N hP)
theorem cd_gh_KN {cy : ClassId} {aO aL aN aT aK aI : Nat → Nat} {o rw rf lg sg : AR} {N T K I : MS} {A : Nat → Prop} (hD : va_D A (wGh cy aO aL aN aT aK aI o rw rf lg sg N T K I)) : va_D A (wMu cy aK K ++ wMu cy aN N) := by
  have h := gD_two (gD_mid (wGh_pKN ▸ hD))
  exact va_D.app (gD_right h) (gD_left h) (fun i j p q hp hq he => gDisj h j i q p hq hp he.symm)
theorem cj_gh_KN {cy : ClassId} {aO aL aN aT aK aI : Nat → Nat} {o rw rf lg sg : AR} {N T K I : MS} {D : va_G} {cl : List vw_C} {H : Heap} {A : Nat → Prop} (hP : va_P D cl (wGh cy aO aL aN aT aK aI o rw rf lg sg N T K I) H) (hD : va_D A (wGh cy aO aL aN aT aK aI o rw rf lg sg N T K I)) (X : MS) (H1 : Heap) (hk : ∀ q : Nat, q < H.size → ¬ va_A (wMu cy aK K ++ wMu cy aN N) H.size q → H1[q]? = H[q]?) (hP1 : va_P D cl (wMu cy aK X ++ wMu cy aN N) H1) : va_P D cl (wGh cy aO aL aN aT aK aI o rw rf lg sg N T X I) H1 ∧ va_D A (wGh cy aO aL aN aT aK aI o rw rf lg sg N T X I) := by
  rw [wGh_pKN] at hP hD ⊢
  exact gJ_two hP hD (fun q h1 h2 => hk q h1 (fun h => h2 (gA_swap h))) ((gP_right hP1).app (gP_left hP1)) rfl rfl
theorem wGh_pNK {cy : ClassId} {aO aL aN aT aK aI : Nat → Nat} {o rw rf lg sg : AR} {N T K I : MS} : wGh cy aO aL aN aT aK aI o rw rf lg sg N T K I = ((aO 0, eGh aO aL aN aT aK aI o) :: (aO 1, gA cy 12 rw) :: (aO 2, gA cy 7 rf) :: wLe cy aL lg sg) ++ ((wMu cy aN N ++ ((wMu cy aT T) ++ wMu cy aK K)) ++ (wMu cy aI I)) := by
  simp only [wGh, List.cons_append, List.nil_append, List.append_assoc, List.append_nil]
theorem cp_gh_NK {cy : ClassId} {aO aL aN aT aK aI : Nat → Nat} {o rw rf lg sg : AR} {N T K I : MS} {D : va_G} {cl : List vw_C} {H : Heap} (hP : va_P D cl (wGh cy aO aL aN aT aK aI o rw rf lg sg N T K I) H) : va_P D cl (wMu cy aN N ++ wMu cy aK K) H := (cp_gh_N hP).app (cp_gh_K hP)
theorem cd_gh_NK {cy : ClassId} {aO aL aN aT aK aI : Nat → Nat} {o rw rf lg sg : AR} {N T K I : MS} {A : Nat → Prop} (hD : va_D A (wGh cy aO aL aN aT aK aI o rw rf lg sg N T K I)) : va_D A (wMu cy aN N ++ wMu cy aK K) := gD_two (gD_mid (wGh_pNK ▸ hD))
theorem cj_gh_NK {cy : ClassId} {aO aL aN aT aK aI : Nat → Nat} {o rw rf lg sg : AR} {N T K I : MS} {D : va_G} {cl : List vw_C} {H : Heap} {A : Nat → Prop} (hP : va_P D cl (wGh cy aO aL aN aT aK aI o rw rf lg sg N T K I) H) (hD : va_D A (wGh cy aO aL aN aT aK aI o rw rf lg sg N T K I)) (X : MS) (H1 : Heap) (hk : ∀ q : Nat, q < H.size → ¬ va_A (wMu cy aN N ++ wMu cy aK K) H.size q → H1[q]? = H[q]?) (hP1 : va_P D cl (wMu cy aN X ++ wMu cy aK K) H1) : va_P D cl (wGh cy aO aL aN aT aK aI o rw rf lg sg X T K I) H1 ∧ va_D A (wGh cy aO aL aN aT aK aI o rw rf lg sg X T K I) := by
  rw [wGh_pNK] at hP hD ⊢
  exact gJ_two hP hD hk hP1 rfl rfl
theorem wGh_pIN {cy : ClassId} {aO aL aN aT aK aI : Nat → Nat} {o rw rf lg sg : AR} {N T K I : MS} : wGh cy aO aL aN aT aK aI o rw rf lg sg N T K I = ((aO 0, eGh aO aL aN aT aK aI o) :: (aO 1, gA cy 12 rw) :: (aO 2, gA cy 7 rf) :: wLe cy aL lg sg) ++ ((wMu cy aN N ++ ((wMu cy aT T ++ (wMu cy aK K)) ++ wMu cy aI I)) ++ ([])) := by
  simp only [wGh, List.cons_append, List.nil_append, List.append_assoc, List.append_nil]
theorem cp_gh_IN {cy : ClassId} {aO aL aN aT aK aI : Nat → Nat} {o rw rf lg sg : AR} {N T K I : MS} {D : va_G} {cl : List vw_C} {H : Heap} (hP : va_P D cl (wGh cy aO aL aN aT aK aI o rw rf lg sg N T K I) H) : va_P D cl (wMu cy aI I ++ wMu cy aN N) H := (cp_gh_I hP).app (cp_gh_N hP)
theorem cd_gh_IN {cy : ClassId} {aO aL aN aT aK aI : Nat → Nat} {o rw rf lg sg : AR} {N T K I : MS} {A : Nat → Prop} (hD : va_D A (wGh cy aO aL aN aT aK aI o rw rf lg sg N T K I)) : va_D A (wMu cy aI I ++ wMu cy aN N) := by
  have h := gD_two (gD_mid (wGh_pIN ▸ hD))
  exact va_D.app (gD_right h) (gD_left h) (fun i j p q hp hq he => gDisj h j i q p hq hp he.symm)
theorem cj_gh_IN {cy : ClassId} {aO aL aN aT aK aI : Nat → Nat} {o rw rf lg sg : AR} {N T K I : MS} {D : va_G} {cl : List vw_C} {H : Heap} {A : Nat → Prop} (hP : va_P D cl (wGh cy aO aL aN aT aK aI o rw rf lg sg N T K I) H) (hD : va_D A (wGh cy aO aL aN aT aK aI o rw rf lg sg N T K I)) (X : MS) (H1 : Heap) (hk : ∀ q : Nat, q < H.size → ¬ va_A (wMu cy aI I ++ wMu cy aN N) H.size q → H1[q]? = H[q]?) (hP1 : va_P D cl (wMu cy aI X ++ wMu cy aN N) H1) : va_P D cl (wGh cy aO aL aN aT aK aI o rw rf lg sg N T K X) H1 ∧ va_D A (wGh cy aO aL aN aT aK aI o rw rf lg sg N T K X) := by
  rw [wGh_pIN] at hP hD ⊢
  exact gJ_two hP hD (fun q h1 h2 => hk q h1 (fun h => h2 (gA_swap h))) ((gP_right hP1).app (gP_left hP1)) rfl rfl
theorem wGh_pNI {cy : ClassId} {aO aL aN aT aK aI : Nat → Nat} {o rw rf lg sg : AR} {N T K I : MS} : wGh cy aO aL aN aT aK aI o rw rf lg sg N T K I = ((aO 0, eGh aO aL aN aT aK aI o) :: (aO 1, gA cy 12 rw) :: (aO 2, gA cy 7 rf) :: wLe cy aL lg sg) ++ ((wMu cy aN N ++ ((wMu cy aT T ++ (wMu cy aK K)) ++ wMu cy aI I)) ++ ([])) := by
  simp only [wGh, List.cons_append, List.nil_append, List.append_assoc, List.append_nil]
theorem cp_gh_NI {cy : ClassId} {aO aL aN aT aK aI : Nat → Nat} {o rw rf lg sg : AR} {N T K I : MS} {D : va_G} {cl : List vw_C} {H : Heap} (hP : va_P D cl (wGh cy aO aL aN aT aK aI o rw rf lg sg N T K I) H) : va_P D cl (wMu cy aN N ++ wMu cy aI I) H := (cp_gh_N hP).app (cp_gh_I hP)
theorem cd_gh_NI {cy : ClassId} {aO aL aN aT aK aI : Nat → Nat} {o rw rf lg sg : AR} {N T K I : MS} {A : Nat → Prop} (hD : va_D A (wGh cy aO aL aN aT aK aI o rw rf lg sg N T K I)) : va_D A (wMu cy aN N ++ wMu cy aI I) := gD_two (gD_mid (wGh_pNI ▸ hD))
theorem cj_gh_NI {cy : ClassId} {aO aL aN aT aK aI : Nat → Nat} {o rw rf lg sg : AR} {N T K I : MS} {D : va_G} {cl : List vw_C} {H : Heap} {A : Nat → Prop} (hP : va_P D cl (wGh cy aO aL aN aT aK aI o rw rf lg sg N T K I) H) (hD : va_D A (wGh cy aO aL aN aT aK aI o rw rf lg sg N T K I)) (X : MS) (H1 : Heap) (hk : ∀ q : Nat, q < H.size → ¬ va_A (wMu cy aN N ++ wMu cy aI I) H.size q → H1[q]? = H[q]?) (hP1 : va_P D cl (wMu cy aN X ++ wMu cy aI I) H1) : va_P D cl (wGh cy aO aL aN aT aK aI o rw rf lg sg X T K I) H1 ∧ va_D A (wGh cy aO aL aN aT aK aI o rw rf lg sg X T K I) := by
  rw [wGh_pNI] at hP hD ⊢
  exact gJ_two hP hD hk hP1 rfl rfl
theorem cp_mu2_r2 {cy : ClassId} {ad bd : Nat → Nat} {M N : MS} {D : va_G} {cl : List vw_C} {H : Heap} (hP : va_P D cl (wMu cy ad M ++ wMu cy bd N) H) : va_P D cl (wRo cy (fun k => ad (k + 1)) (M 2) (M 3) ++ wRo cy (fun k => bd (k + 1)) (N 2) (N 3)) H := (cp_mu_r (gP_left hP)).app (cp_mu_r (gP_right hP))
theorem wMu2_r2 {cy : ClassId} {ad bd : Nat → Nat} {M N : MS} {X Y : AR} : wMu cy ad (uc (uc M 2 X) 3 Y) ++ wMu cy bd N = [(ad 0, eMu ad M)] ++ ((wRo cy (fun k => ad (k + 1)) X Y ++ ([(ad 4, gA cy 8 (M 4)), (ad 5, gA cy 8 (M 5)), (ad 6, gA cy 8 (M 6)), (ad 7, gA cy 8 (M 7)), (ad 8, gA cy 5 (M 8)), (ad 9, gA cy 5 (M 9)), (ad 10, gA cy 5 (M 10)), (ad 11, gA cy 5 (M 11)), (ad 12, gA cy 5 (M 12)), (ad 13, gA cy 40 (M 13)), (ad 14, gA cy 40 (M 14)), (bd 0, eMu bd N)] ++ wRo cy (fun k => bd (k + 1)) (N 2) (N 3))) ++ [(bd 4, gA cy 8 (N 4)), (bd 5, gA cy 8 (N 5)), (bd 6, gA cy 8 (N 6)), (bd 7, gA cy 8 (N 7)), (bd 8, gA cy 5 (N 8)), (bd 9, gA cy 5 (N 9)), (bd 10, gA cy 5 (N 10)), (bd 11, gA cy 5 (N 11)), (bd 12, gA cy 5 (N 12)), (bd 13, gA cy 40 (N 13)), (bd 14, gA cy 40 (N 14))]) := by
  simp [wMu, wRo, eMu, uc]
theorem wMu2_r1 {cy : ClassId} {ad bd : Nat → Nat} {M N : MS} : wMu cy ad M ++ wMu cy bd N = [(ad 0, eMu ad M)] ++ ((wRo cy (fun k => ad (k + 1)) (M 2) (M 3) ++ ([(ad 4, gA cy 8 (M 4)), (ad 5, gA cy 8 (M 5)), (ad 6, gA cy 8 (M 6)), (ad 7, gA cy 8 (M 7)), (ad 8, gA cy 5 (M 8)), (ad 9, gA cy 5 (M 9)), (ad 10, gA cy 5 (M 10)), (ad 11, gA cy 5 (M 11)), (ad 12, gA cy 5 (M 12)), (ad 13, gA cy 40 (M 13)), (ad 14, gA cy 40 (M 14)), (bd 0, eMu bd N)] ++ wRo cy (fun k => bd (k + 1)) (N 2) (N 3))) ++ [(bd 4, gA cy 8 (N 4)), (bd 5, gA cy 8 (N 5)), (bd 6, gA cy 8 (N 6)), (bd 7, gA cy 8 (N 7)), (bd 8, gA cy 5 (N 8)), (bd 9, gA cy 5 (N 9)), (bd 10, gA cy 5 (N 10)), (bd 11, gA cy 5 (N 11)), (bd 12, gA cy 5 (N 12)), (bd 13, gA cy 40 (N 13)), (bd 14, gA cy 40 (N 14))]) := by
  simp [wMu, wRo, eMu]
theorem cd_mu2_r2 {cy : ClassId} {ad bd : Nat → Nat} {M N : MS} {A : Nat → Prop} (hD : va_D A (wMu cy ad M ++ wMu cy bd N)) : va_D A (wRo cy (fun k => ad (k + 1)) (M 2) (M 3) ++ wRo cy (fun k => bd (k + 1)) (N 2) (N 3)) := gD_two (gD_mid (wMu2_r1 ▸ hD))
theorem cj_mu2_r2 {cy : ClassId} {ad bd : Nat → Nat} {M N : MS} {D : va_G} {cl : List vw_C} {H : Heap} {A : Nat → Prop} (hP : va_P D cl (wMu cy ad M ++ wMu cy bd N) H) (hD : va_D A (wMu cy ad M ++ wMu cy bd N)) (X Y : AR) (H1 : Heap) (hk : ∀ q : Nat, q < H.size → ¬ va_A (wRo cy (fun k => ad (k + 1)) (M 2) (M 3) ++ wRo cy (fun k => bd (k + 1)) (N 2) (N 3)) H.size q → H1[q]? = H[q]?) (hP1 : va_P D cl (wRo cy (fun k => ad (k + 1)) X Y ++ wRo cy (fun k => bd (k + 1)) (N 2) (N 3)) H1) : va_P D cl (wMu cy ad (uc (uc M 2 X) 3 Y) ++ wMu cy bd N) H1 ∧ va_D A (wMu cy ad (uc (uc M 2 X) 3 Y) ++ wMu cy bd N) := by
  rw [wMu2_r1] at hP hD
  rw [wMu2_r2]
  exact gJ_two hP hD hk hP1 rfl rfl
theorem MetV.imp {S S2 : Type} {l : Launch} {y : MethodName} {ws : List Cond} {rm : Room} {D : va_G} {cy : ClassId} {av : List Value} {B : va_W} {B1 : S → va_W} {B2 : S2 → va_W} {Q : S → Prop} {Q2 : S2 → Prop} (h : MetV l y ws rm D cy av B B1 Q) (him : ∀ u, Q u → ∃ v, Q2 v ∧ B1 u = B2 v) : MetV l y ws rm D cy av B B2 Q2 := fun sz => by
  intro p e ha hc hk s m args below hf happ hpre hK'
  obtain ⟨n, o, h1, h2, h3, ⟨⟨u, ho, hq, hb⟩, hF⟩, h5⟩ := h sz p e ha hc hk s m args below hf happ hpre hK'
  obtain ⟨v, hv, he⟩ := him u hq
  exact ⟨n, o, h1, h2, h3, ⟨⟨v, ho, hv, by show gPo D _ (B2 v) _; rw [← he]; exact hb⟩, hF⟩, h5⟩
theorem gAc {D : va_G} {cl : List vw_C} {a n : Nat} {cy : ClassId} {f g : AR} {H : Heap} (h : va_P D cl (wAr cy a n f) H) (hfg : ∀ j : Nat, j < n → f (j : Int) = g (j : Int)) : va_P D cl (wAr cy a n g) H := by
  intro k q hk
  have hk1 := (List.getElem?_eq_some_iff.mp hk).1
  have h0 : k = 0 := by simp [wAr] at hk1; omega
  subst h0
  cases hk
  have h1 : H[a]? = some (vp_cell cy (n, .inl (fun j : Nat => iI (f (j : Int))))) := h 0 _ rfl
  show H[a]? = some (vp_cell cy (n, .inl (fun j : Nat => iI (g (j : Int)))))
  rw [h1, vp_cell_i, vp_cell_i]
  congr 1
  exact gArrV (fun j hj => by rw [hfg j hj])
abbrev rX2_become : Room := { frames := 1, cells := 0, slots := 0, locals := 24 }
set_option maxHeartbeats 4000000 in
set_option maxRecDepth 20000 in
theorem c_X2_become (l : Launch) (D : va_G) (cy : ClassId) (ad : Nat → Nat) (bd : Nat → Nat) (op : AR) (fa : AR) (op2 : AR) (fa2 : AR) (Q : AR → AR → Prop) (h : wX2_become op fa op2 fa2 Q) : MetV l yX2_become (wT yX2_become cX2_become 2 none) rX2_become D cy [.ref (ad 0), .ref (bd 0)] (wRo cy ad op fa ++ wRo cy bd op2 fa2) (fun u : AR × AR => wRo cy ad u.1 u.2 ++ wRo cy bd op2 fa2) (fun u => Q u.1 u.2) := by
  refine gI_V (by decide) (Nat.le_of_ble_eq_true rfl) ?_
  intro p e s m args below meth c A Qg F hK hA ret H locs ls hl hP hD hS
  have F : CallFix p m c cX2_become 2 s args gT RX2 := F
  have hl : lv_has ls 2 [(0, .ref (ad 0)), (1, .ref (bd 0))] := hl
  refine lv_aload_n F.1 F.2.1 dX2_become_0 rfl (lv_at hl 1 rfl) ?_
  refine gv_get F hin2 hK hP 3 rfl rfl 0 (by decide) k105 rfl dX2_become_1 ?_
  refine gv_iconst F dX2_become_4 ?_
  refine lv_aload_n F.1 F.2.1 dX2_become_5 rfl (lv_at hl 0 rfl) ?_
  refine gv_get F hin2 hK hP 0 rfl rfl 0 (by decide) k105 rfl dX2_become_6 ?_
  refine gv_iconst F dX2_become_9 ?_
  refine lv_aload_n F.1 F.2.1 dX2_become_10 rfl (lv_at hl 0 rfl) ?_
  refine gv_get F hin2 hK hP 0 rfl rfl 0 (by decide) k105 rfl dX2_become_11 ?_
  refine gv_alen (n := 49) (N := 49) F hK hP 1 rfl rfl dX2_become_14 ?_
  obtain ⟨z1, ez1⟩ : ∃ z : AR, z = op2 := ⟨_, rfl⟩
  have h := h z1 ez1
  refine gv_acopy (n := 49) (f := op2) (g := op) (ws' := wRo cy ad z1 fa ++ wRo cy bd op2 fa2) F k354 k356 k355 k73 hK hP hD hS 4 1 rfl rfl rfl (by decide) (by subst ez1; exact rfl) hl.1 (Nat.le_of_ble_eq_true rfl) (Nat.le_of_ble_eq_true rfl) dX2_become_15 (fun H locs hP hD hS => ?_)
  refine lv_aload_n F.1 F.2.1 dX2_become_18 rfl (lv_at hl 1 rfl) ?_
  refine gv_get F hin2 hK hP 3 rfl rfl 1 (by decide) k106 rfl dX2_become_19 ?_
  refine gv_iconst F dX2_become_22 ?_
  refine lv_aload_n F.1 F.2.1 dX2_become_23 rfl (lv_at hl 0 rfl) ?_
  refine gv_get F hin2 hK hP 0 rfl rfl 1 (by decide) k106 rfl dX2_become_24 ?_
  refine gv_iconst F dX2_become_27 ?_
  refine lv_aload_n F.1 F.2.1 dX2_become_28 rfl (lv_at hl 0 rfl) ?_
  refine gv_get F hin2 hK hP 0 rfl rfl 1 (by decide) k106 rfl dX2_become_29 ?_
  refine gv_alen (n := 49) (N := 49) F hK hP 2 rfl rfl dX2_become_32 ?_
  obtain ⟨z2, ez2⟩ : ∃ z : AR, z = fa2 := ⟨_, rfl⟩
  have h := h z2 ez2
  refine gv_acopy (n := 49) (f := fa2) (g := fa) (ws' := wRo cy ad z1 z2 ++ wRo cy bd op2 fa2) F k354 k356 k355 k73 hK hP hD hS 5 2 rfl rfl rfl (by decide) (by subst ez2; exact rfl) hl.1 (Nat.le_of_ble_eq_true rfl) (Nat.le_of_ble_eq_true rfl) dX2_become_33 (fun H locs hP hD hS => ?_)
  exact ret (z1, z2) H locs 36 ls h hP hD hS dX2_become_36
abbrev rX1_become : Room := { frames := 2, cells := 0, slots := 0, locals := 45 }
set_option maxHeartbeats 4000000 in
set_option maxRecDepth 20000 in
theorem c_X1_become (l : Launch) (D : va_G) (cy : ClassId) (ad : Nat → Nat) (bd : Nat → Nat) (M : MS) (N : MS) (Q : MS → Prop) (h : wX1_become M N Q) : MetV l yX1_become (wT yX1_become cX1_become 2 none) rX1_become D cy [.ref (ad 0), .ref (bd 0)] (wMu cy ad M ++ wMu cy bd N) (fun u : MS => wMu cy ad u ++ wMu cy bd N) (fun u => Q u) := by
  refine gI_V (by decide) (Nat.le_of_ble_eq_true rfl) ?_
  intro p e s m args below meth c A Qg F hK hA ret H locs ls hl hP hD hS
  have F : CallFix p m c cX1_become 2 s args gT RX1 := F
  have hl : lv_has ls 2 [(0, .ref (ad 0)), (1, .ref (bd 0))] := hl
  refine lv_aload_n F.1 F.2.1 dX1_become_0 rfl (lv_at hl 0 rfl) ?_
  refine gv_get F hin1 hK hP 0 rfl rfl 0 (by decide) k116 rfl dX1_become_1 ?_
  refine lv_aload_n F.1 F.2.1 dX1_become_4 rfl (lv_at hl 1 rfl) ?_
  refine gv_get F hin1 hK hP 15 rfl rfl 0 (by decide) k116 rfl dX1_become_5 ?_
  refine gc_VV (As := [.ref (bd 1)]) (wn := fun u : AR × AR => wMu cy ad (uc (uc M 2 u.1) 3 u.2) ++ wMu cy bd N) F hK hA hP hD hS (cp_mu2_r2 hP) (cd_mu2_r2 hD) (fun u H1 hk h1 _ => cj_mu2_r2 hP hD u.1 u.2 H1 hk h1) (c_X2_become l D cy (fun k => ad (k + 1)) (fun k => bd (k + 1)) (M 2) (M 3) (N 2) (N 3) _ h) (cwV 1 F.2.2.2.2 (gG_V k350 k351 k352 k63 k353) rfl rfl rfl hd_X2_become ⟨Nat.le_of_ble_eq_true rfl, Nat.le_of_ble_eq_true rfl⟩) rfl rfl dX1_become_8 rfl rfl hl.1 (Nat.le_of_ble_eq_true rfl) ⟨Nat.le_of_ble_eq_true rfl, Nat.le_of_ble_eq_true rfl⟩ (fun u H locs h hP hD hS => ?_)
  obtain ⟨z1, z2⟩ := u
  try dsimp only at h hP hD
  obtain ⟨z3, ez3⟩ : ∃ z : MS, z = (uc (uc M 2 z1) 3 z2) := ⟨_, rfl⟩
  have h := h z3 ez3
  rw [← ez3] at hP hD
  refine lv_aload_n F.1 F.2.1 dX1_become_11 rfl (lv_at hl 0 rfl) ?_
  refine lv_aload_n F.1 F.2.1 dX1_become_12 rfl (lv_at hl 1 rfl) ?_
  refine gv_get F hin1 hK hP 15 rfl rfl 1 (by decide) k118 rfl dX1_become_13 ?_
  obtain ⟨z4, ez4⟩ : ∃ z : MS, z = st z3 0 1 (N 0 1) := ⟨_, rfl⟩
  have h := h z4 ez4
  refine gv_put (ws' := wMu cy ad z4 ++ wMu cy bd N) F hin1 tyX1 tyX1_ok nmX1 hK hP hD hS 0 rfl rfl 1 (by decide) k118 rfl (ty := .int) (by decide +kernel) rfl rfl (Nat.le_of_ble_eq_true rfl) (by subst ez4; exact gSetL (wMu_o1 rfl) (Nat.le_of_ble_eq_true rfl)) dX1_become_16 (fun H locs hP hD hS => ?_)
  refine lv_aload_n F.1 F.2.1 dX1_become_19 rfl (lv_at hl 0 rfl) ?_
  refine lv_aload_n F.1 F.2.1 dX1_become_20 rfl (lv_at hl 1 rfl) ?_
  refine gv_get F hin1 hK hP 15 rfl rfl 2 (by decide) k120 rfl dX1_become_21 ?_
  obtain ⟨z5, ez5⟩ : ∃ z : MS, z = st z4 0 2 (N 0 2) := ⟨_, rfl⟩
  have h := h z5 ez5
  refine gv_put (ws' := wMu cy ad z5 ++ wMu cy bd N) F hin1 tyX1 tyX1_ok nmX1 hK hP hD hS 0 rfl rfl 2 (by decide) k120 rfl (ty := .int) (by decide +kernel) rfl rfl (Nat.le_of_ble_eq_true rfl) (by subst ez5; exact gSetL (wMu_o2 rfl) (Nat.le_of_ble_eq_true rfl)) dX1_become_24 (fun H locs hP hD hS => ?_)
  refine lv_aload_n F.1 F.2.1 dX1_become_27 rfl (lv_at hl 1 rfl) ?_
  refine gv_get F hin1 hK hP 15 rfl rfl 3 (by decide) k122 rfl dX1_become_28 ?_
  refine gv_iconst F dX1_become_31 ?_
  refine lv_aload_n F.1 F.2.1 dX1_become_32 rfl (lv_at hl 0 rfl) ?_
  refine gv_get F hin1 hK hP 0 rfl rfl 3 (by decide) k122 rfl dX1_become_33 ?_
  refine gv_iconst F dX1_become_36 ?_
  refine gv_bipush F ⟨by decide, by decide⟩ dX1_become_37 ?_
  obtain ⟨z6, ez6⟩ : ∃ z : MS, z = uc z5 4 (N 4) := ⟨_, rfl⟩
  have h := h z6 ez6
  refine gv_acopy (n := 8) (f := (N 4)) (g := (z5 4)) (ws' := wMu cy ad z6 ++ wMu cy bd N) F k357 k356 k355 k73 hK hP hD hS 19 4 rfl rfl rfl (by decide) (by subst ez6; exact wMu2_uc 4 (by decide) 8 rfl _ _) hl.1 (Nat.le_of_ble_eq_true rfl) (Nat.le_of_ble_eq_true rfl) dX1_become_39 (fun H locs hP hD hS => ?_)
  refine lv_aload_n F.1 F.2.1 dX1_become_42 rfl (lv_at hl 1 rfl) ?_
  refine gv_get F hin1 hK hP 15 rfl rfl 4 (by decide) k124 rfl dX1_become_43 ?_
  refine gv_iconst F dX1_become_46 ?_
  refine lv_aload_n F.1 F.2.1 dX1_become_47 rfl (lv_at hl 0 rfl) ?_
  refine gv_get F hin1 hK hP 0 rfl rfl 4 (by decide) k124 rfl dX1_become_48 ?_
  refine gv_iconst F dX1_become_51 ?_
  refine gv_bipush F ⟨by decide, by decide⟩ dX1_become_52 ?_
  obtain ⟨z7, ez7⟩ : ∃ z : MS, z = uc z6 5 (N 5) := ⟨_, rfl⟩
  have h := h z7 ez7
  refine gv_acopy (n := 8) (f := (N 5)) (g := (z6 5)) (ws' := wMu cy ad z7 ++ wMu cy bd N) F k357 k356 k355 k73 hK hP hD hS 20 5 rfl rfl rfl (by decide) (by subst ez7; exact wMu2_uc 5 (by decide) 8 rfl _ _) hl.1 (Nat.le_of_ble_eq_true rfl) (Nat.le_of_ble_eq_true rfl) dX1_become_54 (fun H locs hP hD hS => ?_)
  refine lv_aload_n F.1 F.2.1 dX1_become_57 rfl (lv_at hl 1 rfl) ?_
  refine gv_get F hin1 hK hP 15 rfl rfl 5 (by decide) k126 rfl dX1_become_58 ?_
  refine gv_iconst F dX1_become_61 ?_
  refine lv_aload_n F.1 F.2.1 dX1_become_62 rfl (lv_at hl 0 rfl) ?_
  refine gv_get F hin1 hK hP 0 rfl rfl 5 (by decide) k126 rfl dX1_become_63 ?_
  refine gv_iconst F dX1_become_66 ?_
  refine gv_bipush F ⟨by decide, by decide⟩ dX1_become_67 ?_
  obtain ⟨z8, ez8⟩ : ∃ z : MS, z = uc z7 6 (N 6) := ⟨_, rfl⟩
  have h := h z8 ez8
  refine gv_acopy (n := 8) (f := (N 6)) (g := (z7 6)) (ws' := wMu cy ad z8 ++ wMu cy bd N) F k357 k356 k355 k73 hK hP hD hS 21 6 rfl rfl rfl (by decide) (by subst ez8; exact wMu2_uc 6 (by decide) 8 rfl _ _) hl.1 (Nat.le_of_ble_eq_true rfl) (Nat.le_of_ble_eq_true rfl) dX1_become_69 (fun H locs hP hD hS => ?_)
  refine lv_aload_n F.1 F.2.1 dX1_become_72 rfl (lv_at hl 1 rfl) ?_
  refine gv_get F hin1 hK hP 15 rfl rfl 6 (by decide) k128 rfl dX1_become_73 ?_
  refine gv_iconst F dX1_become_76 ?_
  refine lv_aload_n F.1 F.2.1 dX1_become_77 rfl (lv_at hl 0 rfl) ?_
  refine gv_get F hin1 hK hP 0 rfl rfl 6 (by decide) k128 rfl dX1_become_78 ?_
  refine gv_iconst F dX1_become_81 ?_
  refine gv_bipush F ⟨by decide, by decide⟩ dX1_become_82 ?_
  obtain ⟨z9, ez9⟩ : ∃ z : MS, z = uc z8 7 (N 7) := ⟨_, rfl⟩
  have h := h z9 ez9
  refine gv_acopy (n := 8) (f := (N 7)) (g := (z8 7)) (ws' := wMu cy ad z9 ++ wMu cy bd N) F k357 k356 k355 k73 hK hP hD hS 22 7 rfl rfl rfl (by decide) (by subst ez9; exact wMu2_uc 7 (by decide) 8 rfl _ _) hl.1 (Nat.le_of_ble_eq_true rfl) (Nat.le_of_ble_eq_true rfl) dX1_become_84 (fun H locs hP hD hS => ?_)
  refine lv_aload_n F.1 F.2.1 dX1_become_87 rfl (lv_at hl 0 rfl) ?_
  refine lv_aload_n F.1 F.2.1 dX1_become_88 rfl (lv_at hl 1 rfl) ?_
  refine gv_get F hin1 hK hP 15 rfl rfl 7 (by decide) k130 rfl dX1_become_89 ?_
  obtain ⟨z10, ez10⟩ : ∃ z : MS, z = st z9 0 7 (N 0 7) := ⟨_, rfl⟩
  have h := h z10 ez10
  refine gv_put (ws' := wMu cy ad z10 ++ wMu cy bd N) F hin1 tyX1 tyX1_ok nmX1 hK hP hD hS 0 rfl rfl 7 (by decide) k130 rfl (ty := .int) (by decide +kernel) rfl rfl (Nat.le_of_ble_eq_true rfl) (by subst ez10; exact gSetL (wMu_o7 rfl) (Nat.le_of_ble_eq_true rfl)) dX1_become_92 (fun H locs hP hD hS => ?_)
  refine lv_aload_n F.1 F.2.1 dX1_become_95 rfl (lv_at hl 1 rfl) ?_
  refine gv_get F hin1 hK hP 15 rfl rfl 8 (by decide) k132 rfl dX1_become_96 ?_
  refine gv_iconst F dX1_become_99 ?_
  refine lv_aload_n F.1 F.2.1 dX1_become_100 rfl (lv_at hl 0 rfl) ?_
  refine gv_get F hin1 hK hP 0 rfl rfl 8 (by decide) k132 rfl dX1_become_101 ?_
  refine gv_iconst F dX1_become_104 ?_
  refine gv_iconst F dX1_become_105 ?_
  obtain ⟨z11, ez11⟩ : ∃ z : MS, z = uc z10 8 (N 8) := ⟨_, rfl⟩
  have h := h z11 ez11
  refine gv_acopy (n := 5) (f := (N 8)) (g := (z10 8)) (ws' := wMu cy ad z11 ++ wMu cy bd N) F k357 k356 k355 k73 hK hP hD hS 23 8 rfl rfl rfl (by decide) (by subst ez11; exact wMu2_uc 8 (by decide) 5 rfl _ _) hl.1 (Nat.le_of_ble_eq_true rfl) (Nat.le_of_ble_eq_true rfl) dX1_become_106 (fun H locs hP hD hS => ?_)
  refine lv_aload_n F.1 F.2.1 dX1_become_109 rfl (lv_at hl 1 rfl) ?_
  refine gv_get F hin1 hK hP 15 rfl rfl 9 (by decide) k134 rfl dX1_become_110 ?_
  refine gv_iconst F dX1_become_113 ?_
  refine lv_aload_n F.1 F.2.1 dX1_become_114 rfl (lv_at hl 0 rfl) ?_
  refine gv_get F hin1 hK hP 0 rfl rfl 9 (by decide) k134 rfl dX1_become_115 ?_
  refine gv_iconst F dX1_become_118 ?_
  refine gv_iconst F dX1_become_119 ?_
  obtain ⟨z12, ez12⟩ : ∃ z : MS, z = uc z11 9 (N 9) := ⟨_, rfl⟩
  have h := h z12 ez12
  refine gv_acopy (n := 5) (f := (N 9)) (g := (z11 9)) (ws' := wMu cy ad z12 ++ wMu cy bd N) F k357 k356 k355 k73 hK hP hD hS 24 9 rfl rfl rfl (by decide) (by subst ez12; exact wMu2_uc 9 (by decide) 5 rfl _ _) hl.1 (Nat.le_of_ble_eq_true rfl) (Nat.le_of_ble_eq_true rfl) dX1_become_120 (fun H locs hP hD hS => ?_)
  refine lv_aload_n F.1 F.2.1 dX1_become_123 rfl (lv_at hl 1 rfl) ?_
  refine gv_get F hin1 hK hP 15 rfl rfl 10 (by decide) k136 rfl dX1_become_124 ?_
  refine gv_iconst F dX1_become_127 ?_
  refine lv_aload_n F.1 F.2.1 dX1_become_128 rfl (lv_at hl 0 rfl) ?_
  refine gv_get F hin1 hK hP 0 rfl rfl 10 (by decide) k136 rfl dX1_become_129 ?_
  refine gv_iconst F dX1_become_132 ?_
  refine gv_iconst F dX1_become_133 ?_
  obtain ⟨z13, ez13⟩ : ∃ z : MS, z = uc z12 10 (N 10) := ⟨_, rfl⟩
  have h := h z13 ez13
  refine gv_acopy (n := 5) (f := (N 10)) (g := (z12 10)) (ws' := wMu cy ad z13 ++ wMu cy bd N) F k357 k356 k355 k73 hK hP hD hS 25 10 rfl rfl rfl (by decide) (by subst ez13; exact wMu2_uc 10 (by decide) 5 rfl _ _) hl.1 (Nat.le_of_ble_eq_true rfl) (Nat.le_of_ble_eq_true rfl) dX1_become_134 (fun H locs hP hD hS => ?_)
  refine lv_aload_n F.1 F.2.1 dX1_become_137 rfl (lv_at hl 1 rfl) ?_
  refine gv_get F hin1 hK hP 15 rfl rfl 11 (by decide) k138 rfl dX1_become_138 ?_
  refine gv_iconst F dX1_become_141 ?_
  refine lv_aload_n F.1 F.2.1 dX1_become_142 rfl (lv_at hl 0 rfl) ?_
  refine gv_get F hin1 hK hP 0 rfl rfl 11 (by decide) k138 rfl dX1_become_143 ?_
  refine gv_iconst F dX1_become_146 ?_
  refine gv_iconst F dX1_become_147 ?_
  obtain ⟨z14, ez14⟩ : ∃ z : MS, z = uc z13 11 (N 11) := ⟨_, rfl⟩
  have h := h z14 ez14
  refine gv_acopy (n := 5) (f := (N 11)) (g := (z13 11)) (ws' := wMu cy ad z14 ++ wMu cy bd N) F k357 k356 k355 k73 hK hP hD hS 26 11 rfl rfl rfl (by decide) (by subst ez14; exact wMu2_uc 11 (by decide) 5 rfl _ _) hl.1 (Nat.le_of_ble_eq_true rfl) (Nat.le_of_ble_eq_true rfl) dX1_become_148 (fun H locs hP hD hS => ?_)
  refine lv_aload_n F.1 F.2.1 dX1_become_151 rfl (lv_at hl 1 rfl) ?_
  refine gv_get F hin1 hK hP 15 rfl rfl 12 (by decide) k140 rfl dX1_become_152 ?_
  refine gv_iconst F dX1_become_155 ?_
  refine lv_aload_n F.1 F.2.1 dX1_become_156 rfl (lv_at hl 0 rfl) ?_
  refine gv_get F hin1 hK hP 0 rfl rfl 12 (by decide) k140 rfl dX1_become_157 ?_
  refine gv_iconst F dX1_become_160 ?_
  refine gv_iconst F dX1_become_161 ?_
  obtain ⟨z15, ez15⟩ : ∃ z : MS, z = uc z14 12 (N 12) := ⟨_, rfl⟩
  have h := h z15 ez15
  refine gv_acopy (n := 5) (f := (N 12)) (g := (z14 12)) (ws' := wMu cy ad z15 ++ wMu cy bd N) F k357 k356 k355 k73 hK hP hD hS 27 12 rfl rfl rfl (by decide) (by subst ez15; exact wMu2_uc 12 (by decide) 5 rfl _ _) hl.1 (Nat.le_of_ble_eq_true rfl) (Nat.le_of_ble_eq_true rfl) dX1_become_162 (fun H locs hP hD hS => ?_)
  refine lv_aload_n F.1 F.2.1 dX1_become_165 rfl (lv_at hl 1 rfl) ?_
  refine gv_get F hin1 hK hP 15 rfl rfl 13 (by decide) k142 rfl dX1_become_166 ?_
  refine gv_iconst F dX1_become_169 ?_
  refine lv_aload_n F.1 F.2.1 dX1_become_170 rfl (lv_at hl 0 rfl) ?_
  refine gv_get F hin1 hK hP 0 rfl rfl 13 (by decide) k142 rfl dX1_become_171 ?_
  refine gv_iconst F dX1_become_174 ?_
  refine lv_aload_n F.1 F.2.1 dX1_become_175 rfl (lv_at hl 0 rfl) ?_
  refine gv_get F hin1 hK hP 0 rfl rfl 13 (by decide) k142 rfl dX1_become_176 ?_
  refine gv_alen (n := 40) (N := 40) F hK hP 13 rfl rfl dX1_become_179 ?_
  obtain ⟨z16, ez16⟩ : ∃ z : MS, z = uc z15 13 (N 13) := ⟨_, rfl⟩
  have h := h z16 ez16
  refine gv_acopy (n := 40) (f := (N 13)) (g := (z15 13)) (ws' := wMu cy ad z16 ++ wMu cy bd N) F k357 k356 k355 k73 hK hP hD hS 28 13 rfl rfl rfl (by decide) (by subst ez16; exact wMu2_uc 13 (by decide) 40 rfl _ _) hl.1 (Nat.le_of_ble_eq_true rfl) (Nat.le_of_ble_eq_true rfl) dX1_become_180 (fun H locs hP hD hS => ?_)
  refine lv_aload_n F.1 F.2.1 dX1_become_183 rfl (lv_at hl 1 rfl) ?_
  refine gv_get F hin1 hK hP 15 rfl rfl 14 (by decide) k143 rfl dX1_become_184 ?_
  refine gv_iconst F dX1_become_187 ?_
  refine lv_aload_n F.1 F.2.1 dX1_become_188 rfl (lv_at hl 0 rfl) ?_
  refine gv_get F hin1 hK hP 0 rfl rfl 14 (by decide) k143 rfl dX1_become_189 ?_
  refine gv_iconst F dX1_become_192 ?_
  refine lv_aload_n F.1 F.2.1 dX1_become_193 rfl (lv_at hl 0 rfl) ?_
  refine gv_get F hin1 hK hP 0 rfl rfl 14 (by decide) k143 rfl dX1_become_194 ?_
  refine gv_alen (n := 40) (N := 40) F hK hP 14 rfl rfl dX1_become_197 ?_
  obtain ⟨z17, ez17⟩ : ∃ z : MS, z = uc z16 14 (N 14) := ⟨_, rfl⟩
  have h := h z17 ez17
  refine gv_acopy (n := 40) (f := (N 14)) (g := (z16 14)) (ws' := wMu cy ad z17 ++ wMu cy bd N) F k357 k356 k355 k73 hK hP hD hS 29 14 rfl rfl rfl (by decide) (by subst ez17; exact wMu2_uc 14 (by decide) 40 rfl _ _) hl.1 (Nat.le_of_ble_eq_true rfl) (Nat.le_of_ble_eq_true rfl) dX1_become_198 (fun H locs hP hD hS => ?_)
  exact ret z17 H locs 201 ls h hP hD hS dX1_become_201
theorem c_MuBecome (l : Launch) (D : va_G) (cy : ClassId) (ad bd : Nat → Nat) (M N : MS) (Q : MS → Prop) (h : wMuBecome N Q) : MetV l yX1_become (wT yX1_become cX1_become 2 none) rX1_become D cy [.ref (ad 0), .ref (bd 0)] (wMu cy ad M ++ wMu cy bd N) (fun u : MS => wMu cy ad u ++ wMu cy bd N) (fun u => Q u) := by
  refine MetV.imp (c_X1_become l D cy ad bd M N (fun z => wMu cy ad z = wMu cy ad N) ?_) (fun u hu => ⟨N, h, by rw [hu]⟩)
  unfold wX1_become
  simp only [wX2_become, forall_eq]
  simp [wMu, eMu, uc, st, su]
abbrev rJ7_fill : Room := { frames := 0, cells := 0, slots := 0, locals := 0 }
set_option maxHeartbeats 4000000 in
set_option maxRecDepth 20000 in
theorem c_J7_fill (l : Launch) (D : va_G) (cy : ClassId) (a n : Nat) (hn : n < 2 ^ 31) (f : AR) (v : Int) : MetV l yJ7_fill_53178 (wT yJ7_fill_53178 cJ7_fill_53178 4 none) rJ7_fill D cy [.ref a, .int (iI v)] (wAr cy a n f) (fun u : AR => wAr cy a n u) (fun u => u = fun _ => v) := by
  refine gI_V (by decide) (Nat.le_of_ble_eq_true rfl) ?_
  intro p e s m args below meth c A Qg F hK hA ret H locs ls hl hP hD hS
  have F : CallFix p m c cJ7_fill_53178 4 s args gT RJ7 := F
  have hl : lv_has ls 4 [(0, .ref a), (1, .int (iI v))] := hl
  have L5 : ∀ (k : Nat) (i : Int) (f : AR) (H : Heap) (locs : List Loc) (ls : Array Slot), 0 ≤ i → i ≤ n → (n : Int) - i < k → (∀ j : Int, 0 ≤ j → j < i → f j = v) → va_P D vwCl (wAr cy a n f) H → va_D A (wAr cy a n f) → va_S A s.heap H locs → lv_has ls 4 [(0, .ref a), (1, .int (iI v)), (2, .int (iI i)), (3, .int (iI (n : Int)))] → W p l e rJ7_fill s m args below meth c H locs 0 0 Qg (F0 m 5 ls []) := by
    intro k
    induction k with
    | zero => intro i f H locs ls h0 h1 h2; omega
    | succ k ih =>
      intro i f H locs ls h0 h1 h2 hf hP hD hS hl
      refine lv_iload_n F.1 F.2.1 dJ7_fill_53178_5 rfl (lv_at hl 2 rfl) ?_
      refine lv_iload_n F.1 F.2.1 dJ7_fill_53178_6 rfl (lv_at hl 3 rfl) ?_
      refine gv_icmp_ge (tgt := 20) F ⟨by omega, by omega⟩ ⟨by omega, by omega⟩ dJ7_fill_53178_7 (by decide) (fun c1 => ?_) (fun c1 => ?_)
      · refine ret (fun _ => v) H locs 20 ls rfl (gAc hP (fun j hj => hf j (by omega) (by omega))) (hD.adr rfl) hS dJ7_fill_53178_20
      · refine lv_aload_n F.1 F.2.1 dJ7_fill_53178_10 rfl (lv_at hl 0 rfl) ?_
        refine lv_iload_n F.1 F.2.1 dJ7_fill_53178_11 rfl (lv_at hl 2 rfl) ?_
        refine lv_iload_n F.1 F.2.1 dJ7_fill_53178_12 rfl (lv_at hl 1 rfl) ?_
        refine gv_iast (n := n) (g := f) (N := (n : Int)) (ws' := wAr cy a n (su f i v)) F hK hP hD hS 0 rfl rfl hn ⟨h0, by omega⟩ rfl dJ7_fill_53178_13 (fun H locs hP hD hS => ?_)
        refine gv_iinc (lv' := [(2, .int (iI (i + 1))), (0, .ref a), (1, .int (iI v)), (3, .int (iI (n : Int)))]) F dJ7_fill_53178_14 hl (k := 2) rfl rfl (by decide) rfl (fun ls hl => ?_)
        refine lv_goto (tgt := 5) F.1 F.2.1 dJ7_fill_53178_17 (by decide) ?_
        refine ih (i + 1) (su f i v) H locs ls (by omega) (by omega) (by omega) (fun j hj0 hj1 => ?_) hP hD hS (lv_sub hl [1, 2, 0, 3] rfl)
        unfold su
        by_cases hj : j = i
        · rw [if_pos hj]
        · rw [if_neg hj]; exact hf j hj0 (by omega)
  refine gv_iconst F dJ7_fill_53178_0 ?_
  refine lv_istore_n (lv' := [(2, .int (iI 0)), (0, .ref a), (1, .int (iI v))]) F.1 F.2.1 dJ7_fill_53178_1 rfl hl (by decide) rfl (fun ls hl => ?_)
  refine lv_aload_n F.1 F.2.1 dJ7_fill_53178_2 rfl (lv_at hl 1 rfl) ?_
  refine gv_alen (n := n) (N := (n : Int)) F hK hP 0 rfl rfl dJ7_fill_53178_3 ?_
  refine lv_istore_n (lv' := [(3, .int (iI (n : Int))), (2, .int (iI 0)), (0, .ref a), (1, .int (iI v))]) F.1 F.2.1 dJ7_fill_53178_4 rfl hl (by decide) rfl (fun ls hl => ?_)
  exact L5 (n + 1) 0 f H locs ls (by omega) (by omega) (by omega) (fun j h0 h1 => by omega) hP hD hS (lv_sub hl [2, 3, 1, 0] rfl)
theorem hd_J7_fill : yJ7_fill_53178.cls ≠ "java/lang/invoke/MethodHandle" ∧ yJ7_fill_53178.cls ≠ "java/lang/invoke/VarHandle" ∧ (parseMethodDescriptor yJ7_fill_53178.desc).map (fun d => d.parameters.length) = some 2 := by decide +kernel
theorem hd_X1_forgetCopies : yX1_forgetCopies.cls = RX1 ∧ yX1_forgetCopies.cls ≠ "java/lang/invoke/MethodHandle" ∧ yX1_forgetCopies.cls ≠ "java/lang/invoke/VarHandle" ∧ (parseMethodDescriptor yX1_forgetCopies.desc).map (fun d => d.parameters.length) = some 0 := by decide +kernel
abbrev rX1_forgetCopies : Room := { frames := 1, cells := 0, slots := 0, locals := 23 }
set_option maxHeartbeats 4000000 in
set_option maxRecDepth 20000 in
theorem c_X1_forgetCopies (l : Launch) (D : va_G) (cy : ClassId) (ad : Nat → Nat) (M : MS) (Q : MS → Prop) (h : wX1_forgetCopies M Q) : MetV l yX1_forgetCopies (wT yX1_forgetCopies cX1_forgetCopies 1 none) rX1_forgetCopies D cy [.ref (ad 0)] (wMu cy ad M) (fun u : MS => wMu cy ad u) (fun u => Q u) := by
  refine gI_V (by decide) (Nat.le_of_ble_eq_true rfl) ?_
  intro p e s m args below meth c A Qg F hK hA ret H locs ls hl hP hD hS
  have F : CallFix p m c cX1_forgetCopies 1 s args gT RX1 := F
  have hl : lv_has ls 1 [(0, .ref (ad 0))] := hl
  refine lv_aload_n F.1 F.2.1 dX1_forgetCopies_0 rfl (lv_at hl 0 rfl) ?_
  refine gv_get F hin1 hK hP 0 rfl rfl 14 (by decide) k143 rfl dX1_forgetCopies_1 ?_
  refine gv_bipush F ⟨by decide, by decide⟩ dX1_forgetCopies_4 ?_
  refine gc_SV (As := [.ref (ad 14), .int (iI (-9))]) (wn := fun u : AR => wMu cy ad (uc M 14 u)) F hK hA hP hD hS (cp_mu_14 hP) (cd_mu_14 hD) (fun u H1 hk h1 _ => cj_mu_14 hP hD u H1 hk h1) (c_J7_fill l D cy (ad 14) 40 (by decide) (M 14) (-9)) (va_cwS 2 F.2.2.2.2 (gG_T k113 k114 k65 k115) rfl rfl rfl hd_J7_fill ⟨Nat.le_of_ble_eq_true rfl, Nat.le_of_ble_eq_true rfl⟩) dX1_forgetCopies_6 rfl rfl hl.1 (Nat.le_of_ble_eq_true rfl) ⟨Nat.le_of_ble_eq_true rfl, Nat.le_of_ble_eq_true rfl⟩ (fun u H locs hu hP hD hS => ?_)
  try dsimp only at hP hD
  subst hu
  exact ret (uc M 14 (fun _ => -9)) H locs 9 ls h hP hD hS dX1_forgetCopies_9
