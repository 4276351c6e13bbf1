/-! Measures of the store without places, and the small calls over the world. -/
section PRIM
variable {Y : Nat → MethodName × ByteArray} {d : Nat}
def eT : List AE → Nat
  | [] => 0
  | y :: r => y.1.length + y.2.1.length + eT r
/-- all bytes that the keys hold -/
def tT : List AK → Nat
  | [] => 0
  | a :: r => a.1.length + a.2.2.2.2.1.length + eT a.2.2.2.2.2 + tT r
def eN : List AK → Nat
  | [] => 0
  | a :: r => a.2.2.2.2.2.length + eN r
theorem eT_app (a b : List AE) : eT (a ++ b) = eT a + eT b := by
  induction a with
  | nil => simp [eT]
  | cons y r ih => simp only [List.cons_append, eT, ih]; omega
theorem tT_app (a b : List AK) : tT (a ++ b) = tT a + tT b := by
  induction a with
  | nil => simp [tT]
  | cons y r ih => simp only [List.cons_append, tT, ih]; omega
theorem eN_app (a b : List AK) : eN (a ++ b) = eN a + eN b := by
  induction a with
  | nil => simp [eN]
  | cons y r ih => simp only [List.cons_append, eN, ih]; omega
theorem ceEs_T (es : List ER) : ceN (ceEs es) = eT (es.map (fun y => y.2)) := by
  induction es with
  | nil => rfl
  | cons y r ih =>
    have e : ceEs (y :: r) = ceE y ++ ceEs r := by unfold ceEs; rw [List.flatMap_cons]
    rw [e, ceN_app, ih, List.map_cons]
    show y.2.1.length + (y.2.2.1.length + 0) + _ = y.2.1.length + y.2.2.1.length + _
    omega
theorem tot_T (ks : List KR) : tot ks = tT (strip ks) := by
  induction ks with
  | nil => rfl
  | cons x r ih =>
    have e : ceA (x :: r) = ceX x ++ ceA r := by unfold ceA; rw [List.flatMap_cons]
    unfold tot at ih ⊢
    rw [e, ceN_app, ih, strip_cons]
    show x.2.1.length + (x.2.2.2.2.2.1.length + ceN (ceEs x.2.2.2.2.2.2)) + _ = x.2.1.length + x.2.2.2.2.2.1.length + eT (x.2.2.2.2.2.2.map (fun y => y.2)) + _
    rw [ceEs_T]; omega
theorem eIds_N (ks : List KR) : (eIds ks).length = eN (strip ks) := by
  induction ks with
  | nil => rfl
  | cons x r ih =>
    rw [eIds_cons, List.length_append, ih, strip_cons]
    show (ids x.2.2.2.2.2.2).length + _ = (x.2.2.2.2.2.2.map (fun y => y.2)).length + _
    unfold ids; rw [List.length_map, List.length_map]
theorem strip_len (ks : List KR) : (strip ks).length = ks.length := by unfold strip; rw [List.length_map]
theorem memE_N (w : Nat) (hw : 16 ≤ w) : ∀ es : List ER, eT (es.map (fun y => y.2)) + 16 * es.length ≤ memE w es := by
  intro es
  induction es with
  | nil => exact Nat.le_refl _
  | cons y r ih =>
    rw [List.map_cons, List.length_cons]
    show y.2.1.length + y.2.2.1.length + eT _ + _ ≤ w + y.2.1.length + y.2.2.1.length + memE w r
    omega
theorem mem_N : ∀ ks : List KR, tT (strip ks) + 64 * ks.length + 16 * eN (strip ks) ≤ memA ks := by
  intro ks
  induction ks with
  | nil => exact Nat.le_refl _
  | cons x r ih =>
    have h16 : 16 ≤ memW x.2.2.1 := by unfold memW; split; decide; split; decide; split <;> decide
    have h := memE_N (memW x.2.2.1) h16 x.2.2.2.2.2.2
    rw [strip_cons, List.length_cons]
    have e1 : tT (st1 x :: strip r) = x.2.1.length + x.2.2.2.2.2.1.length + eT (x.2.2.2.2.2.2.map (fun y => y.2)) + tT (strip r) := rfl
    have e2 : eN (st1 x :: strip r) = x.2.2.2.2.2.2.length + eN (strip r) := by
      show (x.2.2.2.2.2.2.map (fun y => y.2)).length + _ = _; rw [List.length_map]
    have e3 : memA (x :: r) = 64 + x.2.1.length + x.2.2.2.2.2.1.length + memE (memW x.2.2.1) x.2.2.2.2.2.2 + memA r := rfl
    omega
/-- a place is free for a key, and for an element -/
theorem Wd.fk {σ : mjS} {ws : List (List Int32)} {ks : List KR} {l : List Int32} (h : Wd σ ws ks l) (hl : ks.length < 4700) : ∃ hs fk k fe, KS σ hs ks (fk ++ [k]) fe := by
  obtain ⟨⟨hs, fk, fe, k⟩, -⟩ := h
  have e := ks_len k
  rcases List.eq_nil_or_concat fk with rfl | ⟨f, y, rfl⟩
  · rw [List.length_nil] at e; omega
  · exact ⟨hs, f, y, fe, by rw [List.concat_eq_append] at k; exact k⟩
theorem Wd.fe {σ : mjS} {ws : List (List Int32)} {ks : List KR} {l : List Int32} (h : Wd σ ws ks l) (hl : eN (strip ks) < 10000) : ∃ hs fk e fe, KS σ hs ks fk (e :: fe) := by
  obtain ⟨⟨hs, fk, fe, k⟩, -⟩ := h
  have e : (eIds ks ++ fe).length = 10000 := k.2.2.2.2.2.2.2.2.2.2.2.2.1
  rw [List.length_append, eIds_N] at e
  cases fe with
  | nil => rw [List.length_nil] at e; omega
  | cons y r => exact ⟨hs, fk, y, r, k⟩
theorem Wd.kok {σ : mjS} {ws : List (List Int32)} {ks : List KR} {l : List Int32} (h : Wd σ ws ks l) {x : KR} (hx : x ∈ ks) : ∃ hs, hs ≤ 300000 ∧ KOK σ hs x := by
  obtain ⟨⟨hs, fk, fe, k⟩, -⟩ := h
  exact ⟨hs, k.2.1, k.2.2.2.2.1 x hx⟩
/-- a word of the heap, as a call takes it -/
theorem RG.clamp {σ : mjS} {hs hA hL i : Nat} {w : List Int32} (h : RG σ hs hA hL i w) (hh : hs ≤ 300000) (hi : i < 2 ^ 30) {x : Int32} (ex : x = nI i) : ∃ a : Nat, σ.2.2.1 hA x.toNatClampNeg = nI a ∧ σ.2.2.1 hL x.toNatClampNeg = nI w.length ∧ a + w.length ≤ 300000 ∧ wd (σ.2.2.1 r_heap) a w.length = w := by
  rw [ex, nI_clamp (by omega)]; exact h.cmp hh
theorem AR.clamp {σ : mjS} {ws : List (List Int32)} (h : AR σ ws) {i : Nat} {w : List Int32} (hw : ws[i]? = some w) {x : Int32} (ex : x = nI i) : vp_in x 1100 ∧ ∃ a : Nat, σ.2.2.1 r_aAt x.toNatClampNeg = nI a ∧ σ.2.2.1 r_aLen x.toNatClampNeg = nI w.length ∧ a + w.length ≤ 131200 ∧ wd (σ.2.2.1 r_req) a w.length = w := by
  have hi := (List.getElem?_eq_some_iff.mp hw).1
  have h1 := h.2.1
  rw [ex, nI_clamp (by omega)]; exact ⟨vp_in_nI (by omega) (by decide), h.2.2 i w hw⟩
-- answers
theorem w_number {σ : mjS} {ws : List (List Int32)} {ks : List KR} {l : List Int32} (h : Wd σ ws ks l) (ty : mjTY σ) (v : Int64) : mjY mjPP (mjQQ Y) (d + 2) 30 0 (mjL0 3 [.ref 0, .long v]) [] σ (fun r u => r = none ∧ Wd u ws ks l ∧ oO σ u) :=
  mjY_mono ty (fun _ _ _ q => ⟨q.1, h.ans q.2, q.2⟩) (c_number ty h.2.2.2.1 v)
theorem w_nil {σ : mjS} {ws : List (List Int32)} {ks : List KR} {l : List Int32} (h : Wd σ ws ks l) (ty : mjTY σ) : mjY mjPP (mjQQ Y) (d + 2) 33 0 (mjL0 1 [.ref 0]) [] σ (fun r u => r = none ∧ Wd u ws ks l ∧ oO σ u) :=
  mjY_mono ty (fun _ _ _ q => ⟨q.1, h.ans q.2, q.2⟩) (c_nil ty h.2.2.2.1)
theorem w_row {σ : mjS} {ws : List (List Int32)} {ks : List KR} {l : List Int32} (h : Wd σ ws ks l) (ty : mjTY σ) (n : Int32) : mjY mjPP (mjQQ Y) (d + 2) 34 0 (mjL0 2 [.ref 0, .int n]) [] σ (fun r u => r = none ∧ Wd u ws ks l ∧ oO σ u) :=
  mjY_mono ty (fun _ _ _ q => ⟨q.1, h.ans q.2, q.2⟩) (c_row ty h.2.2.2.1 n)
theorem w_plain {σ : mjS} {ws : List (List Int32)} {ks : List KR} {l : List Int32} (h : Wd σ ws ks l) (ty : mjTY σ) (v : Int64) : mjY mjPP (mjQQ Y) (d + 2) 35 0 (mjL0 3 [.ref 0, .long v]) [] σ (fun r u => r = none ∧ Wd u ws ks l ∧ oO σ u) :=
  mjY_mono ty (fun _ _ _ q => ⟨q.1, h.ans q.2, q.2⟩) (c_plain ty h.2.2.2.1 v)
theorem w_ok {σ : mjS} {ws : List (List Int32)} {ks : List KR} {l : List Int32} (h : Wd σ ws ks l) (ty : mjTY σ) : mjY mjPP (mjQQ Y) (d + 3) 36 0 (mjL0 1 [.ref 0]) [] σ (fun r u => r = none ∧ Wd u ws ks l ∧ oO σ u) :=
  mjY_mono ty (fun _ _ _ q => ⟨q.1, h.ans q.2, q.2⟩) (c_ok ty h.2.2.2.1)
theorem w_error {σ : mjS} {ws : List (List Int32)} {ks : List KR} {l : List Int32} (h : Wd σ ws ks l) (ty : mjTY σ) (a b : Int64) : mjY mjPP (mjQQ Y) (d + 2) 37 0 (mjL0 5 [.ref 0, .long a, .long b]) [] σ (fun r u => r = some (.int 0) ∧ Wd u ws ks l ∧ oO σ u) :=
  mjY_mono ty (fun _ _ _ q => ⟨q.1, h.ans q.2, q.2⟩) (c_error ty h.2.2.2.1 a b)
theorem w_letters {σ : mjS} {ws : List (List Int32)} {ks : List KR} {l : List Int32} (h : Wd σ ws ks l) (ty : mjTY σ) (a : Int64) : mjY mjPP (mjQQ Y) (d + 1) 26 0 (mjL0 5 [.ref 0, .long a]) [] σ (fun r u => r = none ∧ Wd u ws ks l ∧ oO σ u) :=
  mjY_mono ty (fun _ _ _ q => ⟨q.1, h.ans q.2, q.2⟩) (c_letters ty h.2.2.2.1 a)
theorem w_line {σ : mjS} {ws : List (List Int32)} {ks : List KR} {l : List Int32} (h : Wd σ ws ks l) (ty : mjTY σ) : mjY mjPP (mjQQ Y) (d + 1) 27 0 (mjL0 1 [.ref 0]) [] σ (fun r u => r = none ∧ Wd u ws ks l ∧ oO σ u) :=
  mjY_mono ty (fun _ _ _ q => ⟨q.1, h.ans q.2, q.2⟩) (c_line ty h.2.2.2.1)
theorem w_noInteger {σ : mjS} {ws : List (List Int32)} {ks : List KR} {l : List Int32} (h : Wd σ ws ks l) (ty : mjTY σ) : mjY mjPP (mjQQ Y) (d + 3) 39 0 (mjL0 1 [.ref 0]) [] σ (fun r u => r = some (.int 0) ∧ Wd u ws ks l ∧ oO σ u) :=
  mjY_mono ty (fun _ _ _ q => ⟨q.1, h.ans q.2, q.2⟩) (c_noInteger ty h.2.2.2.1)
theorem w_outOfRange {σ : mjS} {ws : List (List Int32)} {ks : List KR} {l : List Int32} (h : Wd σ ws ks l) (ty : mjTY σ) : mjY mjPP (mjQQ Y) (d + 3) 40 0 (mjL0 1 [.ref 0]) [] σ (fun r u => r = some (.int 0) ∧ Wd u ws ks l ∧ oO σ u) :=
  mjY_mono ty (fun _ _ _ q => ⟨q.1, h.ans q.2, q.2⟩) (c_outOfRange ty h.2.2.2.1)
theorem w_tooGreat {σ : mjS} {ws : List (List Int32)} {ks : List KR} {l : List Int32} (h : Wd σ ws ks l) (ty : mjTY σ) : mjY mjPP (mjQQ Y) (d + 3) 85 0 (mjL0 1 [.ref 0]) [] σ (fun r u => r = none ∧ Wd u ws ks l ∧ oO σ u) :=
  mjY_mono ty (fun _ _ _ q => ⟨q.1, h.ans q.2, q.2⟩) (c_tooGreat ty h.2.2.2.1)
theorem w_numberWord {σ : mjS} {ws : List (List Int32)} {ks : List KR} {l : List Int32} (h : Wd σ ws ks l) (ty : mjTY σ) (v : Int64) : mjY mjPP (mjQQ Y) (d + 2) 32 0 (mjL0 4 [.ref 0, .long v]) [] σ (fun r u => r = none ∧ Wd u ws ks l ∧ oO σ u) :=
  mjY_mono ty (fun _ _ _ q => ⟨q.1, h.ans q.2, q.2⟩) (c_numberWord ty h.2.2.2.1 v)
theorem w_word {σ : mjS} {ws : List (List Int32)} {ks : List KR} {l : List Int32} (h : Wd σ ws ks l) (ty : mjTY σ) (g a n : Nat) (xa xn : Int32) (ea : xa = nI a) (en : xn = nI n) (hh : mjKd g = 1) (ha : a + n ≤ mjLn g) (hl : mjLn g < 2 ^ 31) : mjY mjPP (mjQQ Y) (d + 2) 31 0 (mjL0 5 [.ref 0, .ref g, .int xa, .int xn]) [] σ (fun r u => r = none ∧ Wd u ws ks l ∧ oO σ u) := by
  rw [ea, en]; exact mjY_mono ty (fun _ _ _ q => ⟨q.1, h.ans q.2, q.2⟩) (c_word ty h.2.2.2.1 g a n hh ha hl)
/-- a word of a key or of an element is told -/
theorem w_wordR {σ : mjS} {ws : List (List Int32)} {ks : List KR} {l : List Int32} (h : Wd σ ws ks l) (ty : mjTY σ) {hs hA hL i : Nat} {w : List Int32} (hr : RG σ hs hA hL i w) (hh : hs ≤ 300000) (hi : i < 2 ^ 30) {x : Int32} (ex : x = nI i) : mjY mjPP (mjQQ Y) (d + 2) 31 0 (mjL0 5 [.ref 0, .ref r_heap, .int (σ.2.2.1 hA x.toNatClampNeg), .int (σ.2.2.1 hL x.toNatClampNeg)]) [] σ (fun r u => r = none ∧ Wd u ws ks l ∧ oO σ u) := by
  obtain ⟨a, e1, e2, h1, -⟩ := hr.clamp hh hi ex
  exact w_word h ty r_heap a w.length _ _ e1 e2 rfl h1 (by decide)
theorem w_wordA {σ : mjS} {ws : List (List Int32)} {ks : List KR} {l : List Int32} (h : Wd σ ws ks l) (ty : mjTY σ) {i : Nat} {w : List Int32} (hw : ws[i]? = some w) {x : Int32} (ex : x = nI i) : mjY mjPP (mjQQ Y) (d + 2) 31 0 (mjL0 5 [.ref 0, .ref r_req, .int (σ.2.2.1 r_aAt x.toNatClampNeg), .int (σ.2.2.1 r_aLen x.toNatClampNeg)]) [] σ (fun r u => r = none ∧ Wd u ws ks l ∧ oO σ u) := by
  obtain ⟨-, a, e1, e2, h1, -⟩ := h.2.1.clamp hw ex
  exact w_word h ty r_req a w.length _ _ e1 e2 rfl h1 (by decide)
-- keys
def anm (A : List AK) : List (List Int32) := A.map (fun a => a.1)
theorem nms_strip (ks : List KR) : nms ks = anm (strip ks) := by unfold nms anm strip; rw [List.map_map]; rfl
/-- where the key of this name stands -/
def kyI (A : List AK) (w : List Int32) : Option Nat := match A[plF (anm A) w]? with
  | some a => if cmpW a.1 w = 0 then some (plF (anm A) w) else none
  | none => none
/-- the place that key answers -/
def kyS (ks : List KR) (w : List Int32) : Int32 := match kyF ks w with
  | some x => nI x.1
  | none => -1
theorem ky_cases (ks : List KR) (w : List Int32) : (kyI (strip ks) w = none ∧ kyS ks w = -1) ∨ ∃ P x Q, ks = P ++ x :: Q ∧ kyI (strip ks) w = some P.length ∧ kyS ks w = nI x.1 ∧ cmpW x.2.1 w = 0 := by
  unfold kyS kyI kyF
  rw [nms_strip]
  generalize plF (anm (strip ks)) w = p
  have e : (strip ks)[p]? = (ks[p]?).map st1 := by unfold strip; rw [List.getElem?_map]
  rw [e]
  cases hx : ks[p]? with
  | none => exact Or.inl ⟨rfl, rfl⟩
  | some x =>
    show (_ ∧ _) ∨ _
    by_cases c : cmpW x.2.1 w = 0
    · refine Or.inr ⟨ks.take p, x, ks.drop (p + 1), ?_, ?_, ?_, c⟩
      · have hp := (List.getElem?_eq_some_iff.mp hx)
        obtain ⟨h1, h2⟩ := hp
        rw [← h2, List.getElem_cons_drop, List.take_append_drop]
      · have hp := (List.getElem?_eq_some_iff.mp hx).1
        show (if cmpW x.2.1 w = 0 then some p else none) = _
        rw [if_pos c, List.length_take, Nat.min_eq_left (Nat.le_of_lt hp)]
      · show (match (if cmpW x.2.1 w = 0 then some x else none) with | some x => nI x.1 | none => -1) = _
        rw [if_pos c]
    · refine Or.inl ⟨?_, ?_⟩
      · show (if cmpW (st1 x).1 w = 0 then some p else none) = _
        exact if_neg c
      · show (match (if cmpW x.2.1 w = 0 then some x else none) with | some x => nI x.1 | none => -1) = _
        rw [if_neg c]
theorem w_key {σ : mjS} {ws : List (List Int32)} {ks : List KR} {l : List Int32} (h : Wd σ ws ks l) (ty : mjTY σ) {i : Nat} {w : List Int32} (hw : ws[i]? = some w) {x : Int32} (ex : x = nI i) : mjY mjPP (mjQQ Y) (d + 2) 11 0 (mjL0 4 [.ref 0, .int x]) [] σ (fun r u => r = some (.int (kyS ks w)) ∧ u = σ) := by
  obtain ⟨⟨hs, fk, fe, k⟩, a, -⟩ := h
  rw [ex]; exact c_key k a i w hw ty
set_option maxRecDepth 100000 in
theorem w_touch {σ : mjS} {ws : List (List Int32)} {ks : List KR} {l : List Int32} (h : Wd σ ws ks l) (ty : mjTY σ) {x : KR} (hx : x ∈ ks) {xk : Int32} (ek : xk = nI x.1) : mjY mjPP (mjQQ Y) (d + 2) 24 0 (mjL0 2 [.ref 0, .int xk]) [] σ (fun r u => r = none ∧ Wd u ws ks l ∧ Fr [] [r_disturbed] σ u) := by
  obtain ⟨hs, hh, hk⟩ := h.kok hx
  have vk : vp_in xk 4700 := by rw [ek]; exact vp_in_nI hk.1 (by decide)
  obtain ⟨a, e1, e2, h1, -⟩ := hk.2.1.clamp hh (by have := hk.1; omega) ek
  have hc := c_touchText (Y := Y) (d := d) ty h.2.2.2.2 r_heap a x.2.1.length rfl h1 (by decide)
  rw [← e1, ← e2] at hc
  refine mjZ_y rfl rfl 12 _ _ _ _ ty ?_
  refine (And.intro rfl (And.intro rfl (And.intro rfl (And.intro vk (And.intro rfl (And.intro rfl (And.intro vk (And.intro (Nat.le_of_ble_eq_true rfl) (And.intro rfl (And.intro (Nat.le_of_ble_eq_true rfl) (And.intro (Nat.le_of_ble_eq_true rfl) (mjY_mono ty (fun q_ u1 ty1 h_ => ?_) (hc)))))))))))))
  obtain ⟨rfl, f1⟩ := h_
  intro _
  refine mjZ_y rfl rfl 1 _ _ _ _ ty1 ?_
  refine And.intro rfl (And.intro rfl ?_)
  exact ⟨rfl, h.fr f1 (by decide) (by decide), f1⟩
-- notes
def ntA (σ : mjS) (l : List Int32) (ws : List (List Int32)) (i : Nat) : List Int32 := if σ.1 f_replays = 0 then l ++ begL σ l (lN ws.length) i ++ wordsL (ws.drop 1) else l
theorem begL_fr {σ u : mjS} (f : Fr cF cH σ u) (l : List Int32) (n : Int64) (i : Nat) : begL u l n i = begL σ l n i := by
  unfold begL
  rw [headL_fr f (by decide) (by decide), headL_fr f (by decide) (by decide), f.1 f_inBlock (by decide)]
theorem ntA_fr {σ u : mjS} (f : Fr cF cH σ u) (l : List Int32) (ws : List (List Int32)) (i : Nat) : ntA u l ws i = ntA σ l ws i := by
  unfold ntA
  rw [begL_fr f, f.1 f_replays (by decide)]
theorem w_noteAll {σ : mjS} {ws : List (List Int32)} {ks : List KR} {l : List Int32} (h : Wd σ ws ks l) (ty : mjTY σ) (h1 : 1 ≤ ws.length) (i : Nat) {x : Int32} (ex : x = nI i) (hi : i < 128) (hl : l.length + 132 + sz ws ≤ 420000) : mjY mjPP (mjQQ Y) (d + 5) 49 0 (mjL0 3 [.ref 0, .int x]) [] σ (fun r u => r = none ∧ Wd u ws ks (ntA σ l ws i) ∧ Fr nF nH3 σ u) := by
  rw [ex]
  refine mjY_mono ty (fun _ u _ q => ?_) (c_noteAll ty h.2.2.1 h.2.1 h1 i hi hl)
  obtain ⟨e, q⟩ := q
  refine ⟨e, ?_⟩
  unfold ntA
  rcases q with ⟨c, rfl⟩ | ⟨c, f, p⟩
  · rw [if_neg c]; exact ⟨h, Fr.rf⟩
  · rw [if_pos c]; exact ⟨h.nt f p, f⟩
/-- a key goes: what DEL of it would note -/
def ntG (σ : mjS) (l : List Int32) (w : List Int32) : List Int32 := if σ.1 f_replays = 0 then l ++ begL σ l 2 22 ++ wordL w else l
theorem ntG_fr {σ u : mjS} (f : Fr cF cH σ u) (l : List Int32) (w : List Int32) : ntG u l w = ntG σ l w := by
  unfold ntG
  rw [begL_fr f, f.1 f_replays (by decide)]
theorem w_noteGone {σ : mjS} {ws : List (List Int32)} {ks : List KR} {l : List Int32} (h : Wd σ ws ks l) (ty : mjTY σ) {i : Nat} {w : List Int32} (hw : ws[i]? = some w) {x : Int32} (ex : x = nI i) (hl : l.length + 132 + (w.length + 26) ≤ 420000) : mjY mjPP (mjQQ Y) (d + 5) 50 0 (mjL0 2 [.ref 0, .int x]) [] σ (fun r u => r = none ∧ Wd u ws ks (ntG σ l w) ∧ Fr nF nH3 σ u) := by
  rw [ex]
  refine mjY_mono ty (fun _ u _ q => ?_) (c_noteGone ty h.2.2.1 h.2.1 i w hw hl)
  obtain ⟨e, q⟩ := q
  refine ⟨e, ?_⟩
  unfold ntG
  rcases q with ⟨c, rfl⟩ | ⟨c, f, p⟩
  · rw [if_neg c]; exact ⟨h, Fr.rf⟩
  · rw [if_pos c]; exact ⟨h.nt f p, f⟩
end PRIM
