/-! the worlds: a museum, its rooms, the letters, the whole object; the reference's object, its rows -/
abbrev MS : Type := Nat → Int → Int
abbrev AR : Type := Int → Int
def uc (M : MS) (c : Nat) (f : AR) : MS := fun c' => if c' = c then f else M c'
def st (M : MS) (c : Nat) (i v : Int) : MS := uc M c (su (M c) i v)
def eMu (ad : Nat → Nat) (M : MS) : va_E := .inr (1, [.ref (ad 1), .int (iI (M 0 1)), .int (iI (M 0 2)), .ref (ad 4), .ref (ad 5), .ref (ad 6), .ref (ad 7), .int (iI (M 0 7)), .ref (ad 8), .ref (ad 9), .ref (ad 10), .ref (ad 11), .ref (ad 12), .ref (ad 13), .ref (ad 14)])
def wMu (cy : ClassId) (ad : Nat → Nat) (M : MS) : va_W := [(ad 0, eMu ad M), (ad 1, .inr (2, [.ref (ad 2), .ref (ad 3)])), (ad 2, gA cy 49 (M 2)), (ad 3, gA cy 49 (M 3)), (ad 4, gA cy 8 (M 4)), (ad 5, gA cy 8 (M 5)), (ad 6, gA cy 8 (M 6)), (ad 7, gA cy 8 (M 7)), (ad 8, gA cy 5 (M 8)), (ad 9, gA cy 5 (M 9)), (ad 10, gA cy 5 (M 10)), (ad 11, gA cy 5 (M 11)), (ad 12, gA cy 5 (M 12)), (ad 13, gA cy 40 (M 13)), (ad 14, gA cy 40 (M 14))]
def wRo (cy : ClassId) (ad : Nat → Nat) (op fa : AR) : va_W := [(ad 0, .inr (2, [.ref (ad 1), .ref (ad 2)])), (ad 1, gA cy 49 op), (ad 2, gA cy 49 fa)]
def eLe (ad : Nat → Nat) (lg : AR) : va_E := .inr (0, [.ref (ad 1), .int (iI (lg 1))])
def wLe (cy : ClassId) (ad : Nat → Nat) (lg sg : AR) : va_W := [(ad 0, eLe ad lg), (ad 1, gA cy 96 sg)]
def eGh (aO aL aN aT aK aI : Nat → Nat) (o : AR) : va_E := .inr (3, [.ref (aN 0), .ref (aT 0), .ref (aK 0), .ref (aI 0), .int (iI (o 4)), .ref (aL 0), .ref (aO 1), .int (iI (o 7)), .ref (aO 2)])
def wGh (cy : ClassId) (aO aL aN aT aK aI : Nat → Nat) (o rw rf lg sg : AR) (N T K I : MS) : va_W := (aO 0, eGh aO aL aN aT aK aI o) :: (aO 1, gA cy 12 rw) :: (aO 2, gA cy 7 rf) :: (wLe cy aL lg sg ++ (wMu cy aN N ++ (wMu cy aT T ++ (wMu cy aK K ++ wMu cy aI I))))
def eMd (ad : Nat → Nat) (o : AR) : va_E := .inr (4, [.ref (ad 1), .ref (ad 2), .ref (ad 3), .ref (ad 4), .int (iI (o 4)), .ref (ad 5), .ref (ad 6), .ref (ad 7), .int (iI (o 8)), .int (iI (o 9)), .ref (ad 8), .int (iI (o 11)), .ref (ad 9), .int (iI (o 13)), .int (iI (o 14)), .int (iI (o 15)), .int (iI (o 16))])
def wMd (cy : ClassId) (ad : Nat → Nat) (o s m im wa le ro re fa nu : AR) : va_W := [(ad 0, eMd ad o), (ad 1, gA cy 147 s), (ad 2, gA cy 147 m), (ad 3, gA cy 147 im), (ad 4, gA cy 147 wa), (ad 5, gA cy 96 le), (ad 6, gA cy 12 ro), (ad 7, gA cy 7 re), (ad 8, gA cy 7 fa), (ad 9, gA cy 4 nu)]
def wMf (cy : ClassId) (ad : Nat → Nat) (b : Nat) (o fa r : AR) : va_W := [(ad 0, eMd ad o), (ad 8, gA cy 7 fa), (b, gA cy 147 r)]
def wAr (cy : ClassId) (a n : Nat) (f : AR) : va_W := [(a, gA cy n f)]
def wA2 (cy : ClassId) (a b n : Nat) (f g : AR) : va_W := [(a, gA cy n f), (b, gA cy n g)]
theorem gPnil {D : va_G} {cl : List vw_C} {H : Heap} : va_P D cl [] H := fun k q h => by simp at h
theorem gDnil {A : Nat → Prop} : va_D A [] := ⟨fun i j p q h => by simp at h, fun k q h => by simp at h⟩
theorem gRx {i N : Int} (h : 0 ≤ i ∧ i < N) (hN : N ≤ 2147483647) : gR i := ⟨by omega, by omega⟩
theorem gRb {u : Int} (h : u = 0 ∨ u = 1) : gR u := ⟨by omega, by omega⟩
theorem gNb {u : Int} (h : u = 0 ∨ u = 1) : narrow .boolean (.int (iI u)) = .int (iI u) := by rcases h with rfl | rfl <;> rfl
theorem gJoin2 {A0 : Nat → Prop} {D : va_G} {cl : List vw_C} {ws wc w1 ws' : va_W} {H H1 : Heap} (hP : va_P D cl ws H) (hD : va_D A0 ws) (is isR : List Nat) (n : Nat) (hlen : ws.length = n) (hall : (List.range n).all (fun i => decide (i ∈ is) || decide (i ∈ isR)) = true) (hC : is.map (fun i => ws[i]?) = wc.map some) (hk : ∀ q : Nat, q < H.size → ¬ va_A wc H.size q → H1[q]? = H[q]?) (hP1 : va_P D cl w1 H1)
    (hadr : ws'.map Prod.fst = ws.map Prod.fst) (hnew : is.map (fun i => ws'[i]?) = w1.map some) (hold : isR.map (fun i => ws'[i]?) = isR.map (fun i => ws[i]?)) : va_P D cl ws' H1 ∧ va_D A0 ws' := by
  refine gJoin hP hD is hC hk hP1 hadr hnew (fun i hi hn => ?_)
  have h1 := List.all_eq_true.mp hall i (List.mem_range.mpr (by omega))
  simp only [Bool.or_eq_true, decide_eq_true_eq] at h1
  rcases h1 with h1 | h1
  · exact absurd h1 hn
  · exact (List.map_inj_left.mp hold) i h1
set_option maxRecDepth 20000 in
theorem cp_md_fs {cy : ClassId} {ad : Nat → Nat} {o s m im wa le ro re fa nu : AR} {D : va_G} {cl : List vw_C} {H : Heap} (hP : va_P D cl (wMd cy ad o s m im wa le ro re fa nu) H) : va_P D cl (wMf cy ad (ad 1) o fa s) H := hP.sub [0, 8, 1] rfl
set_option maxRecDepth 20000 in
theorem cd_md_fs {cy : ClassId} {ad : Nat → Nat} {o s m im wa le ro re fa nu : AR} {A : Nat → Prop} (hD : va_D A (wMd cy ad o s m im wa le ro re fa nu)) : va_D A (wMf cy ad (ad 1) o fa s) := hD.sub [0, 8, 1] rfl rfl
set_option maxRecDepth 20000 in
theorem cj_md_fs {cy : ClassId} {ad : Nat → Nat} {o s m im wa le ro re fa nu : AR} {D : va_G} {cl : List vw_C} {H : Heap} {A : Nat → Prop} (hP : va_P D cl (wMd cy ad o s m im wa le ro re fa nu) H) (hD : va_D A (wMd cy ad o s m im wa le ro re fa nu)) (X Y : AR) (H1 : Heap) (hk : ∀ q : Nat, q < H.size → ¬ va_A (wMf cy ad (ad 1) o fa s) H.size q → H1[q]? = H[q]?) (hP1 : va_P D cl (wMf cy ad (ad 1) o X Y) H1) : va_P D cl (wMd cy ad o Y m im wa le ro re X nu) H1 ∧ va_D A (wMd cy ad o Y m im wa le ro re X nu) := gJoin2 hP hD [0, 8, 1] [2, 3, 4, 5, 6, 7, 9] 10 rfl rfl rfl hk hP1 rfl rfl rfl
set_option maxRecDepth 20000 in
theorem cp_md_s {cy : ClassId} {ad : Nat → Nat} {o s m im wa le ro re fa nu : AR} {D : va_G} {cl : List vw_C} {H : Heap} (hP : va_P D cl (wMd cy ad o s m im wa le ro re fa nu) H) : va_P D cl (wAr cy (ad 1) 147 s) H := hP.sub [1] rfl
set_option maxRecDepth 20000 in
theorem cd_md_s {cy : ClassId} {ad : Nat → Nat} {o s m im wa le ro re fa nu : AR} {A : Nat → Prop} (hD : va_D A (wMd cy ad o s m im wa le ro re fa nu)) : va_D A (wAr cy (ad 1) 147 s) := hD.sub [1] rfl rfl
set_option maxRecDepth 20000 in
theorem cj_md_s {cy : ClassId} {ad : Nat → Nat} {o s m im wa le ro re fa nu : AR} {D : va_G} {cl : List vw_C} {H : Heap} {A : Nat → Prop} (hP : va_P D cl (wMd cy ad o s m im wa le ro re fa nu) H) (hD : va_D A (wMd cy ad o s m im wa le ro re fa nu)) (X : AR) (H1 : Heap) (hk : ∀ q : Nat, q < H.size → ¬ va_A (wAr cy (ad 1) 147 s) H.size q → H1[q]? = H[q]?) (hP1 : va_P D cl (wAr cy (ad 1) 147 X) H1) : va_P D cl (wMd cy ad o X m im wa le ro re fa nu) H1 ∧ va_D A (wMd cy ad o X m im wa le ro re fa nu) := gJoin2 hP hD [1] [0, 2, 3, 4, 5, 6, 7, 8, 9] 10 rfl rfl rfl hk hP1 rfl rfl rfl
set_option maxRecDepth 20000 in
theorem cp_md_fm {cy : ClassId} {ad : Nat → Nat} {o s m im wa le ro re fa nu : AR} {D : va_G} {cl : List vw_C} {H : Heap} (hP : va_P D cl (wMd cy ad o s m im wa le ro re fa nu) H) : va_P D cl (wMf cy ad (ad 2) o fa m) H := hP.sub [0, 8, 2] rfl
set_option maxRecDepth 20000 in
theorem cd_md_fm {cy : ClassId} {ad : Nat → Nat} {o s m im wa le ro re fa nu : AR} {A : Nat → Prop} (hD : va_D A (wMd cy ad o s m im wa le ro re fa nu)) : va_D A (wMf cy ad (ad 2) o fa m) := hD.sub [0, 8, 2] rfl rfl
set_option maxRecDepth 20000 in
theorem cj_md_fm {cy : ClassId} {ad : Nat → Nat} {o s m im wa le ro re fa nu : AR} {D : va_G} {cl : List vw_C} {H : Heap} {A : Nat → Prop} (hP : va_P D cl (wMd cy ad o s m im wa le ro re fa nu) H) (hD : va_D A (wMd cy ad o s m im wa le ro re fa nu)) (X Y : AR) (H1 : Heap) (hk : ∀ q : Nat, q < H.size → ¬ va_A (wMf cy ad (ad 2) o fa m) H.size q → H1[q]? = H[q]?) (hP1 : va_P D cl (wMf cy ad (ad 2) o X Y) H1) : va_P D cl (wMd cy ad o s Y im wa le ro re X nu) H1 ∧ va_D A (wMd cy ad o s Y im wa le ro re X nu) := gJoin2 hP hD [0, 8, 2] [1, 3, 4, 5, 6, 7, 9] 10 rfl rfl rfl hk hP1 rfl rfl rfl
set_option maxRecDepth 20000 in
theorem cp_md_m {cy : ClassId} {ad : Nat → Nat} {o s m im wa le ro re fa nu : AR} {D : va_G} {cl : List vw_C} {H : Heap} (hP : va_P D cl (wMd cy ad o s m im wa le ro re fa nu) H) : va_P D cl (wAr cy (ad 2) 147 m) H := hP.sub [2] rfl
set_option maxRecDepth 20000 in
theorem cd_md_m {cy : ClassId} {ad : Nat → Nat} {o s m im wa le ro re fa nu : AR} {A : Nat → Prop} (hD : va_D A (wMd cy ad o s m im wa le ro re fa nu)) : va_D A (wAr cy (ad 2) 147 m) := hD.sub [2] rfl rfl
set_option maxRecDepth 20000 in
theorem cj_md_m {cy : ClassId} {ad : Nat → Nat} {o s m im wa le ro re fa nu : AR} {D : va_G} {cl : List vw_C} {H : Heap} {A : Nat → Prop} (hP : va_P D cl (wMd cy ad o s m im wa le ro re fa nu) H) (hD : va_D A (wMd cy ad o s m im wa le ro re fa nu)) (X : AR) (H1 : Heap) (hk : ∀ q : Nat, q < H.size → ¬ va_A (wAr cy (ad 2) 147 m) H.size q → H1[q]? = H[q]?) (hP1 : va_P D cl (wAr cy (ad 2) 147 X) H1) : va_P D cl (wMd cy ad o s X im wa le ro re fa nu) H1 ∧ va_D A (wMd cy ad o s X im wa le ro re fa nu) := gJoin2 hP hD [2] [0, 1, 3, 4, 5, 6, 7, 8, 9] 10 rfl rfl rfl hk hP1 rfl rfl rfl
set_option maxRecDepth 20000 in
theorem cp_md_s_m {cy : ClassId} {ad : Nat → Nat} {o s m im wa le ro re fa nu : AR} {D : va_G} {cl : List vw_C} {H : Heap} (hP : va_P D cl (wMd cy ad o s m im wa le ro re fa nu) H) : va_P D cl (wA2 cy (ad 1) (ad 2) 147 s m) H := hP.sub [1, 2] rfl
set_option maxRecDepth 20000 in
theorem cd_md_s_m {cy : ClassId} {ad : Nat → Nat} {o s m im wa le ro re fa nu : AR} {A : Nat → Prop} (hD : va_D A (wMd cy ad o s m im wa le ro re fa nu)) : va_D A (wA2 cy (ad 1) (ad 2) 147 s m) := hD.sub [1, 2] rfl rfl
set_option maxRecDepth 20000 in
theorem cj_md_s_m {cy : ClassId} {ad : Nat → Nat} {o s m im wa le ro re fa nu : AR} {D : va_G} {cl : List vw_C} {H : Heap} {A : Nat → Prop} (hP : va_P D cl (wMd cy ad o s m im wa le ro re fa nu) H) (hD : va_D A (wMd cy ad o s m im wa le ro re fa nu)) (X : AR) (H1 : Heap) (hk : ∀ q : Nat, q < H.size → ¬ va_A (wA2 cy (ad 1) (ad 2) 147 s m) H.size q → H1[q]? = H[q]?) (hP1 : va_P D cl (wA2 cy (ad 1) (ad 2) 147 s X) H1) : va_P D cl (wMd cy ad o s X im wa le ro re fa nu) H1 ∧ va_D A (wMd cy ad o s X im wa le ro re fa nu) := gJoin2 hP hD [1, 2] [0, 3, 4, 5, 6, 7, 8, 9] 10 rfl rfl rfl hk hP1 rfl rfl rfl
set_option maxRecDepth 20000 in
theorem cp_md_s_wa {cy : ClassId} {ad : Nat → Nat} {o s m im wa le ro re fa nu : AR} {D : va_G} {cl : List vw_C} {H : Heap} (hP : va_P D cl (wMd cy ad o s m im wa le ro re fa nu) H) : va_P D cl (wA2 cy (ad 1) (ad 4) 147 s wa) H := hP.sub [1, 4] rfl
set_option maxRecDepth 20000 in
theorem cd_md_s_wa {cy : ClassId} {ad : Nat → Nat} {o s m im wa le ro re fa nu : AR} {A : Nat → Prop} (hD : va_D A (wMd cy ad o s m im wa le ro re fa nu)) : va_D A (wA2 cy (ad 1) (ad 4) 147 s wa) := hD.sub [1, 4] rfl rfl
set_option maxRecDepth 20000 in
theorem cj_md_s_wa {cy : ClassId} {ad : Nat → Nat} {o s m im wa le ro re fa nu : AR} {D : va_G} {cl : List vw_C} {H : Heap} {A : Nat → Prop} (hP : va_P D cl (wMd cy ad o s m im wa le ro re fa nu) H) (hD : va_D A (wMd cy ad o s m im wa le ro re fa nu)) (X : AR) (H1 : Heap) (hk : ∀ q : Nat, q < H.size → ¬ va_A (wA2 cy (ad 1) (ad 4) 147 s wa) H.size q → H1[q]? = H[q]?) (hP1 : va_P D cl (wA2 cy (ad 1) (ad 4) 147 s X) H1) : va_P D cl (wMd cy ad o s m im X le ro re fa nu) H1 ∧ va_D A (wMd cy ad o s m im X le ro re fa nu) := gJoin2 hP hD [1, 4] [0, 2, 3, 5, 6, 7, 8, 9] 10 rfl rfl rfl hk hP1 rfl rfl rfl
set_option maxRecDepth 20000 in
theorem cp_md_wa_s {cy : ClassId} {ad : Nat → Nat} {o s m im wa le ro re fa nu : AR} {D : va_G} {cl : List vw_C} {H : Heap} (hP : va_P D cl (wMd cy ad o s m im wa le ro re fa nu) H) : va_P D cl (wA2 cy (ad 4) (ad 1) 147 wa s) H := hP.sub [4, 1] rfl
set_option maxRecDepth 20000 in
theorem cd_md_wa_s {cy : ClassId} {ad : Nat → Nat} {o s m im wa le ro re fa nu : AR} {A : Nat → Prop} (hD : va_D A (wMd cy ad o s m im wa le ro re fa nu)) : va_D A (wA2 cy (ad 4) (ad 1) 147 wa s) := hD.sub [4, 1] rfl rfl
set_option maxRecDepth 20000 in
theorem cj_md_wa_s {cy : ClassId} {ad : Nat → Nat} {o s m im wa le ro re fa nu : AR} {D : va_G} {cl : List vw_C} {H : Heap} {A : Nat → Prop} (hP : va_P D cl (wMd cy ad o s m im wa le ro re fa nu) H) (hD : va_D A (wMd cy ad o s m im wa le ro re fa nu)) (X : AR) (H1 : Heap) (hk : ∀ q : Nat, q < H.size → ¬ va_A (wA2 cy (ad 4) (ad 1) 147 wa s) H.size q → H1[q]? = H[q]?) (hP1 : va_P D cl (wA2 cy (ad 4) (ad 1) 147 wa X) H1) : va_P D cl (wMd cy ad o X m im wa le ro re fa nu) H1 ∧ va_D A (wMd cy ad o X m im wa le ro re fa nu) := gJoin2 hP hD [4, 1] [0, 2, 3, 5, 6, 7, 8, 9] 10 rfl rfl rfl hk hP1 rfl rfl rfl
set_option maxRecDepth 20000 in
theorem cp_md_s_im {cy : ClassId} {ad : Nat → Nat} {o s m im wa le ro re fa nu : AR} {D : va_G} {cl : List vw_C} {H : Heap} (hP : va_P D cl (wMd cy ad o s m im wa le ro re fa nu) H) : va_P D cl (wA2 cy (ad 1) (ad 3) 147 s im) H := hP.sub [1, 3] rfl
set_option maxRecDepth 20000 in
theorem cd_md_s_im {cy : ClassId} {ad : Nat → Nat} {o s m im wa le ro re fa nu : AR} {A : Nat → Prop} (hD : va_D A (wMd cy ad o s m im wa le ro re fa nu)) : va_D A (wA2 cy (ad 1) (ad 3) 147 s im) := hD.sub [1, 3] rfl rfl
set_option maxRecDepth 20000 in
theorem cj_md_s_im {cy : ClassId} {ad : Nat → Nat} {o s m im wa le ro re fa nu : AR} {D : va_G} {cl : List vw_C} {H : Heap} {A : Nat → Prop} (hP : va_P D cl (wMd cy ad o s m im wa le ro re fa nu) H) (hD : va_D A (wMd cy ad o s m im wa le ro re fa nu)) (X : AR) (H1 : Heap) (hk : ∀ q : Nat, q < H.size → ¬ va_A (wA2 cy (ad 1) (ad 3) 147 s im) H.size q → H1[q]? = H[q]?) (hP1 : va_P D cl (wA2 cy (ad 1) (ad 3) 147 s X) H1) : va_P D cl (wMd cy ad o s m X wa le ro re fa nu) H1 ∧ va_D A (wMd cy ad o s m X wa le ro re fa nu) := gJoin2 hP hD [1, 3] [0, 2, 4, 5, 6, 7, 8, 9] 10 rfl rfl rfl hk hP1 rfl rfl rfl
set_option maxRecDepth 20000 in
theorem cp_md_im_s {cy : ClassId} {ad : Nat → Nat} {o s m im wa le ro re fa nu : AR} {D : va_G} {cl : List vw_C} {H : Heap} (hP : va_P D cl (wMd cy ad o s m im wa le ro re fa nu) H) : va_P D cl (wA2 cy (ad 3) (ad 1) 147 im s) H := hP.sub [3, 1] rfl
set_option maxRecDepth 20000 in
theorem cd_md_im_s {cy : ClassId} {ad : Nat → Nat} {o s m im wa le ro re fa nu : AR} {A : Nat → Prop} (hD : va_D A (wMd cy ad o s m im wa le ro re fa nu)) : va_D A (wA2 cy (ad 3) (ad 1) 147 im s) := hD.sub [3, 1] rfl rfl
set_option maxRecDepth 20000 in
theorem cj_md_im_s {cy : ClassId} {ad : Nat → Nat} {o s m im wa le ro re fa nu : AR} {D : va_G} {cl : List vw_C} {H : Heap} {A : Nat → Prop} (hP : va_P D cl (wMd cy ad o s m im wa le ro re fa nu) H) (hD : va_D A (wMd cy ad o s m im wa le ro re fa nu)) (X : AR) (H1 : Heap) (hk : ∀ q : Nat, q < H.size → ¬ va_A (wA2 cy (ad 3) (ad 1) 147 im s) H.size q → H1[q]? = H[q]?) (hP1 : va_P D cl (wA2 cy (ad 3) (ad 1) 147 im X) H1) : va_P D cl (wMd cy ad o X m im wa le ro re fa nu) H1 ∧ va_D A (wMd cy ad o X m im wa le ro re fa nu) := gJoin2 hP hD [3, 1] [0, 2, 4, 5, 6, 7, 8, 9] 10 rfl rfl rfl hk hP1 rfl rfl rfl
set_option maxRecDepth 20000 in
theorem cp_mf_r {cy : ClassId} {ad : Nat → Nat} {b : Nat} {o fa r : AR} {D : va_G} {cl : List vw_C} {H : Heap} (hP : va_P D cl (wMf cy ad b o fa r) H) : va_P D cl (wAr cy b 147 r) H := hP.sub [2] rfl
set_option maxRecDepth 20000 in
theorem cd_mf_r {cy : ClassId} {ad : Nat → Nat} {b : Nat} {o fa r : AR} {A : Nat → Prop} (hD : va_D A (wMf cy ad b o fa r)) : va_D A (wAr cy b 147 r) := hD.sub [2] rfl rfl
set_option maxRecDepth 20000 in
theorem cj_mf_r {cy : ClassId} {ad : Nat → Nat} {b : Nat} {o fa r : AR} {D : va_G} {cl : List vw_C} {H : Heap} {A : Nat → Prop} (hP : va_P D cl (wMf cy ad b o fa r) H) (hD : va_D A (wMf cy ad b o fa r)) (X : AR) (H1 : Heap) (hk : ∀ q : Nat, q < H.size → ¬ va_A (wAr cy b 147 r) H.size q → H1[q]? = H[q]?) (hP1 : va_P D cl (wAr cy b 147 X) H1) : va_P D cl (wMf cy ad b o fa X) H1 ∧ va_D A (wMf cy ad b o fa X) := gJoin2 hP hD [2] [0, 1] 3 rfl rfl rfl hk hP1 rfl rfl rfl
theorem gP_mid {D : va_G} {cl : List vw_C} {pre B post : va_W} {H : Heap} (h : va_P D cl (pre ++ (B ++ post)) H) : va_P D cl B H := fun k q hk => by
  refine h (pre.length + k) q ?_
  rw [List.getElem?_append_right (by omega), Nat.add_sub_cancel_left, List.getElem?_append_left (List.getElem?_eq_some_iff.mp hk).1]
  exact hk
theorem gD_mid {A : Nat → Prop} {pre B post : va_W} (h : va_D A (pre ++ (B ++ post))) : va_D A B := by
  have key : ∀ (k : Nat) (q : Nat × va_E), B[k]? = some q → (pre ++ (B ++ post))[pre.length + k]? = some q := fun k q hk => by
    rw [List.getElem?_append_right (by omega), Nat.add_sub_cancel_left, List.getElem?_append_left (List.getElem?_eq_some_iff.mp hk).1]
    exact hk
  refine ⟨fun i j x y hi hj hxy => ?_, fun k q hk => h.2 _ q (key k q hk)⟩
  have := h.1 _ _ x y (key i x hi) (key j y hj) hxy
  omega
theorem gJ_mid {A : Nat → Prop} {D : va_G} {cl : List vw_C} {pre B B1 post : va_W} {H H1 : Heap} (hP : va_P D cl (pre ++ (B ++ post)) H) (hD : va_D A (pre ++ (B ++ post))) (hk : ∀ q : Nat, q < H.size → ¬ va_A B H.size q → H1[q]? = H[q]?) (hP1 : va_P D cl B1 H1) (hadr : B1.map Prod.fst = B.map Prod.fst) : va_P D cl (pre ++ (B1 ++ post)) H1 ∧ va_D A (pre ++ (B1 ++ post)) := by
  have hlen : B1.length = B.length := by simpa using congrArg List.length hadr
  have key : ∀ (k : Nat) (q : Nat × va_E), B[k]? = some q → (pre ++ (B ++ post))[pre.length + k]? = some q := fun k q hk => by
    rw [List.getElem?_append_right (by omega), Nat.add_sub_cancel_left, List.getElem?_append_left (List.getElem?_eq_some_iff.mp hk).1]
    exact hk
  have out : ∀ (k : Nat) (q : Nat × va_E), (pre ++ (B ++ post))[k]? = some q → (k < pre.length ∨ pre.length + B.length ≤ k) → H1[q.1]? = H[q.1]? := fun k q hq hr => by
    have hlt := (hP k q hq).lt
    refine hk q.1 hlt (fun h => ?_)
    rcases h with ⟨k2, x, h⟩ | h
    · have h2 := (List.getElem?_eq_some_iff.mp h).1
      have := hD.1 k _ q (q.1, x) hq (key k2 _ h) rfl
      omega
    · omega
  refine ⟨fun k q hq => ?_, hD.adr (by simp only [List.map_append, hadr])⟩
  by_cases h1 : k < pre.length
  · rw [List.getElem?_append_left h1] at hq
    have h2 : (pre ++ (B ++ post))[k]? = some q := by rw [List.getElem?_append_left h1]; exact hq
    exact (hP k q h2).kept (out k q h2 (Or.inl h1))
  · rw [List.getElem?_append_right (by omega)] at hq
    by_cases h3 : k - pre.length < B.length
    · rw [List.getElem?_append_left (by omega)] at hq
      exact hP1 _ q hq
    · rw [List.getElem?_append_right (by omega), hlen] at hq
      have h2 : (pre ++ (B ++ post))[k]? = some q := by
        rw [List.getElem?_append_right (by omega), List.getElem?_append_right (by omega)]
        exact hq
      exact (hP k q h2).kept (out k q h2 (Or.inr (by omega)))
theorem gA_sub {ws wc : va_W} {sz : Nat} (is : List Nat) (hC : is.map (fun i => ws[i]?) = wc.map some) : ∀ q : Nat, va_A wc sz q → va_A ws sz q := by
  intro q h
  rcases h with ⟨k2, x, h⟩ | h
  · have h2 : some (q, x) ∈ wc.map some := List.mem_map.mpr ⟨_, List.mem_of_getElem? h, rfl⟩
    rw [← hC] at h2
    obtain ⟨i, h3, h4⟩ := List.mem_map.mp h2
    exact Or.inl ⟨i, x, h4⟩
  · exact Or.inr h
theorem wMu_r {cy : ClassId} {ad : Nat → Nat} {M : MS} : wMu cy ad M = [(ad 0, eMu ad M)] ++ (wRo cy (fun k => ad (k + 1)) (M 2) (M 3) ++ [(ad 4, gA cy 8 (M 4)), (ad 5, gA cy 8 (M 5)), (ad 6, gA cy 8 (M 6)), (ad 7, gA cy 8 (M 7)), (ad 8, gA cy 5 (M 8)), (ad 9, gA cy 5 (M 9)), (ad 10, gA cy 5 (M 10)), (ad 11, gA cy 5 (M 11)), (ad 12, gA cy 5 (M 12)), (ad 13, gA cy 40 (M 13)), (ad 14, gA cy 40 (M 14))]) := rfl
theorem wMu_r2 {cy : ClassId} {ad : Nat → Nat} {M : MS} {X Y : AR} : wMu cy ad (uc (uc M 2 X) 3 Y) = [(ad 0, eMu ad M)] ++ (wRo cy (fun k => ad (k + 1)) X Y ++ [(ad 4, gA cy 8 (M 4)), (ad 5, gA cy 8 (M 5)), (ad 6, gA cy 8 (M 6)), (ad 7, gA cy 8 (M 7)), (ad 8, gA cy 5 (M 8)), (ad 9, gA cy 5 (M 9)), (ad 10, gA cy 5 (M 10)), (ad 11, gA cy 5 (M 11)), (ad 12, gA cy 5 (M 12)), (ad 13, gA cy 40 (M 13)), (ad 14, gA cy 40 (M 14))]) := by
  simp [wMu, wRo, eMu, uc]
theorem wMu_14 {cy : ClassId} {ad : Nat → Nat} {M : MS} : wMu cy ad M = [(ad 0, eMu ad M), (ad 1, .inr (2, [.ref (ad 2), .ref (ad 3)])), (ad 2, gA cy 49 (M 2)), (ad 3, gA cy 49 (M 3)), (ad 4, gA cy 8 (M 4)), (ad 5, gA cy 8 (M 5)), (ad 6, gA cy 8 (M 6)), (ad 7, gA cy 8 (M 7)), (ad 8, gA cy 5 (M 8)), (ad 9, gA cy 5 (M 9)), (ad 10, gA cy 5 (M 10)), (ad 11, gA cy 5 (M 11)), (ad 12, gA cy 5 (M 12)), (ad 13, gA cy 40 (M 13))] ++ (wAr cy (ad 14) 40 (M 14) ++ []) := rfl
theorem wMu_142 {cy : ClassId} {ad : Nat → Nat} {M : MS} {X : AR} : wMu cy ad (uc M 14 X) = [(ad 0, eMu ad M), (ad 1, .inr (2, [.ref (ad 2), .ref (ad 3)])), (ad 2, gA cy 49 (M 2)), (ad 3, gA cy 49 (M 3)), (ad 4, gA cy 8 (M 4)), (ad 5, gA cy 8 (M 5)), (ad 6, gA cy 8 (M 6)), (ad 7, gA cy 8 (M 7)), (ad 8, gA cy 5 (M 8)), (ad 9, gA cy 5 (M 9)), (ad 10, gA cy 5 (M 10)), (ad 11, gA cy 5 (M 11)), (ad 12, gA cy 5 (M 12)), (ad 13, gA cy 40 (M 13))] ++ (wAr cy (ad 14) 40 X ++ []) := by
  simp [wMu, wAr, eMu, uc]
theorem cp_mu_r {cy : ClassId} {ad : Nat → Nat} {M : MS} {D : va_G} {cl : List vw_C} {H : Heap} (hP : va_P D cl (wMu cy ad M) H) : va_P D cl (wRo cy (fun k => ad (k + 1)) (M 2) (M 3)) H := gP_mid (wMu_r ▸ hP)
theorem cd_mu_r {cy : ClassId} {ad : Nat → Nat} {M : MS} {A : Nat → Prop} (hD : va_D A (wMu cy ad M)) : va_D A (wRo cy (fun k => ad (k + 1)) (M 2) (M 3)) := gD_mid (wMu_r ▸ hD)
theorem cj_mu_r {cy : ClassId} {ad : Nat → Nat} {M : MS} {D : va_G} {cl : List vw_C} {H : Heap} {A : Nat → Prop} (hP : va_P D cl (wMu cy ad M) H) (hD : va_D A (wMu cy ad M)) (X Y : AR) (H1 : Heap) (hk : ∀ q : Nat, q < H.size → ¬ va_A (wRo cy (fun k => ad (k + 1)) (M 2) (M 3)) H.size q → H1[q]? = H[q]?) (hP1 : va_P D cl (wRo cy (fun k => ad (k + 1)) X Y) H1) : va_P D cl (wMu cy ad (uc (uc M 2 X) 3 Y)) H1 ∧ va_D A (wMu cy ad (uc (uc M 2 X) 3 Y)) := by
  rw [wMu_r] at hP hD
  rw [wMu_r2]
  exact gJ_mid hP hD hk hP1 rfl
theorem cp_mu_14 {cy : ClassId} {ad : Nat → Nat} {M : MS} {D : va_G} {cl : List vw_C} {H : Heap} (hP : va_P D cl (wMu cy ad M) H) : va_P D cl (wAr cy (ad 14) 40 (M 14)) H := gP_mid (wMu_14 ▸ hP)
theorem cd_mu_14 {cy : ClassId} {ad : Nat → Nat} {M : MS} {A : Nat → Prop} (hD : va_D A (wMu cy ad M)) : va_D A (wAr cy (ad 14) 40 (M 14)) := gD_mid (wMu_14 ▸ hD)
theorem cj_mu_14 {cy : ClassId} {ad : Nat → Nat} {M : MS} {D : va_G} {cl : List vw_C} {H : Heap} {A : Nat → Prop} (hP : va_P D cl (wMu cy ad M) H) (hD : va_D A (wMu cy ad M)) (X : AR) (H1 : Heap) (hk : ∀ q : Nat, q < H.size → ¬ va_A (wAr cy (ad 14) 40 (M 14)) H.size q → H1[q]? = H[q]?) (hP1 : va_P D cl (wAr cy (ad 14) 40 X) H1) : va_P D cl (wMu cy ad (uc M 14 X)) H1 ∧ va_D A (wMu cy ad (uc M 14 X)) := by
  rw [wMu_14] at hP hD
  rw [wMu_142]
  exact gJ_mid hP hD hk hP1 rfl
theorem wMu_st {cy : ClassId} {ad : Nat → Nat} {M : MS} (c : Nat) (hc : 2 ≤ c ∧ c ≤ 14) (n : Nat) (hn : n = if c ≤ 3 then 49 else if c ≤ 7 then 8 else if c ≤ 12 then 5 else 40) (i v : Int) : (wMu cy ad M).set c (ad c, gA cy n (su (M c) i v)) = wMu cy ad (st M c i v) := by
  subst hn
  rcases (show c = 2 ∨ c = 3 ∨ c = 4 ∨ c = 5 ∨ c = 6 ∨ c = 7 ∨ c = 8 ∨ c = 9 ∨ c = 10 ∨ c = 11 ∨ c = 12 ∨ c = 13 ∨ c = 14 by omega) with rfl | rfl | rfl | rfl | rfl | rfl | rfl | rfl | rfl | rfl | rfl | rfl | rfl <;> simp [wMu, eMu, st, uc]
theorem wGh_L {cy : ClassId} {aO aL aN aT aK aI : Nat → Nat} {o rw rf lg sg : AR} {N T K I : MS} : wGh cy aO aL aN aT aK aI o rw rf lg sg N T K I = ((aO 0, eGh aO aL aN aT aK aI o) :: (aO 1, gA cy 12 rw) :: (aO 2, gA cy 7 rf) :: []) ++ (wLe cy aL lg sg ++ (wMu cy aN N ++ (wMu cy aT T ++ (wMu cy aK K ++ (wMu cy aI I))))) := by
  simp only [wGh, List.cons_append, List.nil_append, List.append_assoc, List.append_nil]
theorem cp_gh_L {cy : ClassId} {aO aL aN aT aK aI : Nat → Nat} {o rw rf lg sg : AR} {N T K I : MS} {D : va_G} {cl : List vw_C} {H : Heap} (hP : va_P D cl (wGh cy aO aL aN aT aK aI o rw rf lg sg N T K I) H) : va_P D cl (wLe cy aL lg sg) H := gP_mid (wGh_L ▸ hP)
theorem cd_gh_L {cy : ClassId} {aO aL aN aT aK aI : Nat → Nat} {o rw rf lg sg : AR} {N T K I : MS} {A : Nat → Prop} (hD : va_D A (wGh cy aO aL aN aT aK aI o rw rf lg sg N T K I)) : va_D A (wLe cy aL lg sg) := gD_mid (wGh_L ▸ hD)
theorem cj_gh_L {cy : ClassId} {aO aL aN aT aK aI : Nat → Nat} {o rw rf lg sg : AR} {N T K I : MS} {D : va_G} {cl : List vw_C} {H : Heap} {A : Nat → Prop} (hP : va_P D cl (wGh cy aO aL aN aT aK aI o rw rf lg sg N T K I) H) (hD : va_D A (wGh cy aO aL aN aT aK aI o rw rf lg sg N T K I)) (X Y : AR) (H1 : Heap) (hk : ∀ q : Nat, q < H.size → ¬ va_A (wLe cy aL lg sg) H.size q → H1[q]? = H[q]?) (hP1 : va_P D cl (wLe cy aL X Y) H1) : va_P D cl (wGh cy aO aL aN aT aK aI o rw rf X Y N T K I) H1 ∧ va_D A (wGh cy aO aL aN aT aK aI o rw rf X Y N T K I) := by
  rw [wGh_L] at hP hD ⊢
  exact gJ_mid hP hD hk hP1 rfl
theorem wGh_N {cy : ClassId} {aO aL aN aT aK aI : Nat → Nat} {o rw rf lg sg : AR} {N T K I : MS} : wGh cy aO aL aN aT aK aI o rw rf lg sg N T K I = ((aO 0, eGh aO aL aN aT aK aI o) :: (aO 1, gA cy 12 rw) :: (aO 2, gA cy 7 rf) :: (wLe cy aL lg sg)) ++ (wMu cy aN N ++ (wMu cy aT T ++ (wMu cy aK K ++ (wMu cy aI I)))) := by
  simp only [wGh, List.cons_append, List.nil_append, List.append_assoc, List.append_nil]
theorem cp_gh_N {cy : ClassId} {aO aL aN aT aK aI : Nat → Nat} {o rw rf lg sg : AR} {N T K I : MS} {D : va_G} {cl : List vw_C} {H : Heap} (hP : va_P D cl (wGh cy aO aL aN aT aK aI o rw rf lg sg N T K I) H) : va_P D cl (wMu cy aN N) H := gP_mid (wGh_N ▸ hP)
theorem cd_gh_N {cy : ClassId} {aO aL aN aT aK aI : Nat → Nat} {o rw rf lg sg : AR} {N T K I : MS} {A : Nat → Prop} (hD : va_D A (wGh cy aO aL aN aT aK aI o rw rf lg sg N T K I)) : va_D A (wMu cy aN N) := gD_mid (wGh_N ▸ hD)
theorem cj_gh_N {cy : ClassId} {aO aL aN aT aK aI : Nat → Nat} {o rw rf lg sg : AR} {N T K I : MS} {D : va_G} {cl : List vw_C} {H : Heap} {A : Nat → Prop} (hP : va_P D cl (wGh cy aO aL aN aT aK aI o rw rf lg sg N T K I) H) (hD : va_D A (wGh cy aO aL aN aT aK aI o rw rf lg sg N T K I)) (X : MS) (H1 : Heap) (hk : ∀ q : Nat, q < H.size → ¬ va_A (wMu cy aN N) H.size q → H1[q]? = H[q]?) (hP1 : va_P D cl (wMu cy aN X) H1) : va_P D cl (wGh cy aO aL aN aT aK aI o rw rf lg sg X T K I) H1 ∧ va_D A (wGh cy aO aL aN aT aK aI o rw rf lg sg X T K I) := by
  rw [wGh_N] at hP hD ⊢
  exact gJ_mid hP hD hk hP1 rfl
theorem cp_gh_Nr {cy : ClassId} {aO aL aN aT aK aI : Nat → Nat} {o rw rf lg sg : AR} {N T K I : MS} {D : va_G} {cl : List vw_C} {H : Heap} (hP : va_P D cl (wGh cy aO aL aN aT aK aI o rw rf lg sg N T K I) H) : va_P D cl (wRo cy (fun k => aN (k + 1)) (N 2) (N 3)) H := cp_mu_r (cp_gh_N hP)
theorem cd_gh_Nr {cy : ClassId} {aO aL aN aT aK aI : Nat → Nat} {o rw rf lg sg : AR} {N T K I : MS} {A : Nat → Prop} (hD : va_D A (wGh cy aO aL aN aT aK aI o rw rf lg sg N T K I)) : va_D A (wRo cy (fun k => aN (k + 1)) (N 2) (N 3)) := cd_mu_r (cd_gh_N hD)
theorem cj_gh_Nr {cy : ClassId} {aO aL aN aT aK aI : Nat → Nat} {o rw rf lg sg : AR} {N T K I : MS} {D : va_G} {cl : List vw_C} {H : Heap} {A : Nat → Prop} (hP : va_P D cl (wGh cy aO aL aN aT aK aI o rw rf lg sg N T K I) H) (hD : va_D A (wGh cy aO aL aN aT aK aI o rw rf lg sg N T K I)) (X Y : AR) (H1 : Heap) (hk : ∀ q : Nat, q < H.size → ¬ va_A (wRo cy (fun k => aN (k + 1)) (N 2) (N 3)) H.size q → H1[q]? = H[q]?) (hP1 : va_P D cl (wRo cy (fun k => aN (k + 1)) X Y) H1) : va_P D cl (wGh cy aO aL aN aT aK aI o rw rf lg sg (uc (uc N 2 X) 3 Y) T K I) H1 ∧ va_D A (wGh cy aO aL aN aT aK aI o rw rf lg sg (uc (uc N 2 X) 3 Y) T K I) :=
  cj_gh_N hP hD _ H1 (fun q h1 h2 => hk q h1 (fun h => h2 (gA_sub (ws := wMu cy aN N) [1, 2, 3] rfl q h))) (cj_mu_r (cp_gh_N hP) (cd_gh_N hD) X Y H1 hk hP1).1
theorem wGh_T {cy : ClassId} {aO aL aN aT aK aI : Nat → Nat} {o rw rf lg sg : AR} {N T K I : MS} : wGh cy aO aL aN aT aK aI o rw rf lg sg N T K I = ((aO 0, eGh aO aL aN aT aK aI o) :: (aO 1, gA cy 12 rw) :: (aO 2, gA cy 7 rf) :: (wLe cy aL lg sg ++ (wMu cy aN N))) ++ (wMu cy aT T ++ (wMu cy aK K ++ (wMu cy aI I))) := by
  simp only [wGh, List.cons_append, List.nil_append, List.append_assoc, List.append_nil]
theorem cp_gh_T {cy : ClassId} {aO aL aN aT aK aI : Nat → Nat} {o rw rf lg sg : AR} {N T K I : MS} {D : va_G} {cl : List vw_C} {H : Heap} (hP : va_P D cl (wGh cy aO aL aN aT aK aI o rw rf lg sg N T K I) H) : va_P D cl (wMu cy aT T) H := gP_mid (wGh_T ▸ hP)
theorem cd_gh_T {cy : ClassId} {aO aL aN aT aK aI : Nat → Nat} {o rw rf lg sg : AR} {N T K I : MS} {A : Nat → Prop} (hD : va_D A (wGh cy aO aL aN aT aK aI o rw rf lg sg N T K I)) : va_D A (wMu cy aT T) := gD_mid (wGh_T ▸ hD)
theorem cj_gh_T {cy : ClassId} {aO aL aN aT aK aI : Nat → Nat} {o rw rf lg sg : AR} {N T K I : MS} {D : va_G} {cl : List vw_C} {H : Heap} {A : Nat → Prop} (hP : va_P D cl (wGh cy aO aL aN aT aK aI o rw rf lg sg N T K I) H) (hD : va_D A (wGh cy aO aL aN aT aK aI o rw rf lg sg N T K I)) (X : MS) (H1 : Heap) (hk : ∀ q : Nat, q < H.size → ¬ va_A (wMu cy aT T) H.size q → H1[q]? = H[q]?) (hP1 : va_P D cl (wMu cy aT X) H1) : va_P D cl (wGh cy aO aL aN aT aK aI o rw rf lg sg N X K I) H1 ∧ va_D A (wGh cy aO aL aN aT aK aI o rw rf lg sg N X K I) := by
  rw [wGh_T] at hP hD ⊢
  exact gJ_mid hP hD hk hP1 rfl
theorem cp_gh_Tr {cy : ClassId} {aO aL aN aT aK aI : Nat → Nat} {o rw rf lg sg : AR} {N T K I : MS} {D : va_G} {cl : List vw_C} {H : Heap} (hP : va_P D cl (wGh cy aO aL aN aT aK aI o rw rf lg sg N T K I) H) : va_P D cl (wRo cy (fun k => aT (k + 1)) (T 2) (T 3)) H := cp_mu_r (cp_gh_T hP)
theorem cd_gh_Tr {cy : ClassId} {aO aL aN aT aK aI : Nat → Nat} {o rw rf lg sg : AR} {N T K I : MS} {A : Nat → Prop} (hD : va_D A (wGh cy aO aL aN aT aK aI o rw rf lg sg N T K I)) : va_D A (wRo cy (fun k => aT (k + 1)) (T 2) (T 3)) := cd_mu_r (cd_gh_T hD)
theorem cj_gh_Tr {cy : ClassId} {aO aL aN aT aK aI : Nat → Nat} {o rw rf lg sg : AR} {N T K I : MS} {D : va_G} {cl : List vw_C} {H : Heap} {A : Nat → Prop} (hP : va_P D cl (wGh cy aO aL aN aT aK aI o rw rf lg sg N T K I) H) (hD : va_D A (wGh cy aO aL aN aT aK aI o rw rf lg sg N T K I)) (X Y : AR) (H1 : Heap) (hk : ∀ q : Nat, q < H.size → ¬ va_A (wRo cy (fun k => aT (k + 1)) (T 2) (T 3)) H.size q → H1[q]? = H[q]?) (hP1 : va_P D cl (wRo cy (fun k => aT (k + 1)) X Y) H1) : va_P D cl (wGh cy aO aL aN aT aK aI o rw rf lg sg N (uc (uc T 2 X) 3 Y) K I) H1 ∧ va_D A (wGh cy aO aL aN aT aK aI o rw rf lg sg N (uc (uc T 2 X) 3 Y) K I) :=
  cj_gh_T hP hD _ H1 (fun q h1 h2 => hk q h1 (fun h => h2 (gA_sub (ws := wMu cy aT T) [1, 2, 3] rfl q h))) (cj_mu_r (cp_gh_T hP) (cd_gh_T hD) X Y H1 hk hP1).1
theorem wGh_K {cy : ClassId} {aO aL aN aT aK aI : Nat → Nat} {o rw rf lg sg : AR} {N T K I : MS} : wGh cy aO aL aN aT aK aI o rw rf lg sg N T K I = ((aO 0, eGh aO aL aN aT aK aI o) :: (aO 1, gA cy 12 rw) :: (aO 2, gA cy 7 rf) :: (wLe cy aL lg sg ++ (wMu cy aN N ++ (wMu cy aT T)))) ++ (wMu cy aK K ++ (wMu cy aI I)) := by
  simp only [wGh, List.cons_append, List.nil_append, List.append_assoc, List.append_nil]
theorem cp_gh_K {cy : ClassId} {aO aL aN aT aK aI : Nat → Nat} {o rw rf lg sg : AR} {N T K I : MS} {D : va_G} {cl : List vw_C} {H : Heap} (hP : va_P D cl (wGh cy aO aL aN aT aK aI o rw rf lg sg N T K I) H) : va_P D cl (wMu cy aK K) H := gP_mid (wGh_K ▸ hP)
theorem cd_gh_K {cy : ClassId} {aO aL aN aT aK aI : Nat → Nat} {o rw rf lg sg : AR} {N T K I : MS} {A : Nat → Prop} (hD : va_D A (wGh cy aO aL aN aT aK aI o rw rf lg sg N T K I)) : va_D A (wMu cy aK K) := gD_mid (wGh_K ▸ hD)
theorem cj_gh_K {cy : ClassId} {aO aL aN aT aK aI : Nat → Nat} {o rw rf lg sg : AR} {N T K I : MS} {D : va_G} {cl : List vw_C} {H : Heap} {A : Nat → Prop} (hP : va_P D cl (wGh cy aO aL aN aT aK aI o rw rf lg sg N T K I) H) (hD : va_D A (wGh cy aO aL aN aT aK aI o rw rf lg sg N T K I)) (X : MS) (H1 : Heap) (hk : ∀ q : Nat, q < H.size → ¬ va_A (wMu cy aK K) H.size q → H1[q]? = H[q]?) (hP1 : va_P D cl (wMu cy aK X) H1) : va_P D cl (wGh cy aO aL aN aT aK aI o rw rf lg sg N T X I) H1 ∧ va_D A (wGh cy aO aL aN aT aK aI o rw rf lg sg N T X I) := by
  rw [wGh_K] at hP hD ⊢
  exact gJ_mid hP hD hk hP1 rfl
theorem wGh_I {cy : ClassId} {aO aL aN aT aK aI : Nat → Nat} {o rw rf lg sg : AR} {N T K I : MS} : wGh cy aO aL aN aT aK aI o rw rf lg sg N T K I = ((aO 0, eGh aO aL aN aT aK aI o) :: (aO 1, gA cy 12 rw) :: (aO 2, gA cy 7 rf) :: (wLe cy aL lg sg ++ (wMu cy aN N ++ (wMu cy aT T ++ (wMu cy aK K))))) ++ (wMu cy aI I ++ ([])) := by
  simp only [wGh, List.cons_append, List.nil_append, List.append_assoc, List.append_nil]
theorem cp_gh_I {cy : ClassId} {aO aL aN aT aK aI : Nat → Nat} {o rw rf lg sg : AR} {N T K I : MS} {D : va_G} {cl : List vw_C} {H : Heap} (hP : va_P D cl (wGh cy aO aL aN aT aK aI o rw rf lg sg N T K I) H) : va_P D cl (wMu cy aI I) H := gP_mid (wGh_I ▸ hP)
theorem cd_gh_I {cy : ClassId} {aO aL aN aT aK aI : Nat → Nat} {o rw rf lg sg : AR} {N T K I : MS} {A : Nat → Prop} (hD : va_D A (wGh cy aO aL aN aT aK aI o rw rf lg sg N T K I)) : va_D A (wMu cy aI I) := gD_mid (wGh_I ▸ hD)
theorem cj_gh_I {cy : ClassId} {aO aL aN aT aK aI : Nat → Nat} {o rw rf lg sg : AR} {N T K I : MS} {D : va_G} {cl : List vw_C} {H : Heap} {A : Nat → Prop} (hP : va_P D cl (wGh cy aO aL aN aT aK aI o rw rf lg sg N T K I) H) (hD : va_D A (wGh cy aO aL aN aT aK aI o rw rf lg sg N T K I)) (X : MS) (H1 : Heap) (hk : ∀ q : Nat, q < H.size → ¬ va_A (wMu cy aI I) H.size q → H1[q]? = H[q]?) (hP1 : va_P D cl (wMu cy aI X) H1) : va_P D cl (wGh cy aO aL aN aT aK aI o rw rf lg sg N T K X) H1 ∧ va_D A (wGh cy aO aL aN aT aK aI o rw rf lg sg N T K X) := by
  rw [wGh_I] at hP hD ⊢
  exact gJ_mid hP hD hk hP1 rfl
theorem hin0 : ∀ w ∈ u_ws RX0 TX0 2, w ∈ gT := fun w hw => by
  obtain ⟨k, hk, rfl⟩ := List.mem_map.mp hw
  have hk := List.mem_range.mp hk
  rcases (show k = 0 ∨ k = 1 by omega) with rfl | rfl
  · exact k183
  · exact k185
theorem hin1 : ∀ w ∈ u_ws RX1 TX1 15, w ∈ gT := fun w hw => by
  obtain ⟨k, hk, rfl⟩ := List.mem_map.mp hw
  have hk := List.mem_range.mp hk
  rcases (show k = 0 ∨ k = 1 ∨ k = 2 ∨ k = 3 ∨ k = 4 ∨ k = 5 ∨ k = 6 ∨ k = 7 ∨ k = 8 ∨ k = 9 ∨ k = 10 ∨ k = 11 ∨ k = 12 ∨ k = 13 ∨ k = 14 by omega) with rfl | rfl | rfl | rfl | rfl | rfl | rfl | rfl | rfl | rfl | rfl | rfl | rfl | rfl | rfl
  · exact k144
  · exact k146
  · exact k148
  · exact k150
  · exact k152
  · exact k154
  · exact k156
  · exact k158
  · exact k160
  · exact k162
  · exact k164
  · exact k166
  · exact k168
  · exact k170
  · exact k172
theorem hin2 : ∀ w ∈ u_ws RX2 TX2 2, w ∈ gT := fun w hw => by
  obtain ⟨k, hk, rfl⟩ := List.mem_map.mp hw
  have hk := List.mem_range.mp hk
  rcases (show k = 0 ∨ k = 1 by omega) with rfl | rfl
  · exact k107
  · exact k109
theorem hin3 : ∀ w ∈ u_ws RX3 TX3 9, w ∈ gT := fun w hw => by
  obtain ⟨k, hk, rfl⟩ := List.mem_map.mp hw
  have hk := List.mem_range.mp hk
  rcases (show k = 0 ∨ k = 1 ∨ k = 2 ∨ k = 3 ∨ k = 4 ∨ k = 5 ∨ k = 6 ∨ k = 7 ∨ k = 8 by omega) with rfl | rfl | rfl | rfl | rfl | rfl | rfl | rfl | rfl
  · exact k197
  · exact k199
  · exact k201
  · exact k203
  · exact k205
  · exact k207
  · exact k209
  · exact k211
  · exact k213
theorem hin4 : ∀ w ∈ u_ws RX4 TX4 17, w ∈ gT := fun w hw => by
  obtain ⟨k, hk, rfl⟩ := List.mem_map.mp hw
  have hk := List.mem_range.mp hk
  rcases (show k = 0 ∨ k = 1 ∨ k = 2 ∨ k = 3 ∨ k = 4 ∨ k = 5 ∨ k = 6 ∨ k = 7 ∨ k = 8 ∨ k = 9 ∨ k = 10 ∨ k = 11 ∨ k = 12 ∨ k = 13 ∨ k = 14 ∨ k = 15 ∨ k = 16 by omega) with rfl | rfl | rfl | rfl | rfl | rfl | rfl | rfl | rfl | rfl | rfl | rfl | rfl | rfl | rfl | rfl | rfl
  · exact k773
  · exact k775
  · exact k777
  · exact k779
  · exact k781
  · exact k783
  · exact k785
  · exact k787
  · exact k789
  · exact k791
  · exact k793
  · exact k795
  · exact k797
  · exact k799
  · exact k801
  · exact k803
  · exact k805
