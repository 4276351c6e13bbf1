/-! What the commands keep: sets in order of scores. -/
section GROW3
theorem u8_inv : ∀ n, n < 256 → Int8.ofInt (u8 (Int8.ofNat n).toInt32) = Int8.ofNat n := by decide +kernel
theorem u8_inj {x y : Int32} (hx : x.toInt8.toInt32 = x) (hy : y.toInt8.toInt32 = y) (h : u8 x = u8 y) : x = y := by
  have k : ∀ z : Int32, z.toInt8.toInt32 = z → Int8.ofInt (u8 z) = z.toInt8 := by
    intro z hz
    have e : z.toInt8 = Int8.ofNat z.toInt8.toBitVec.toNat := by
      apply Int8.toBitVec_inj.mp
      show _ = BitVec.ofNat 8 _
      rw [BitVec.ofNat_toNat]; simp
    have := u8_inv z.toInt8.toBitVec.toNat z.toInt8.toBitVec.isLt
    rw [← e, hz] at this
    exact this
  rw [← hx, ← hy, ← k x hx, ← k y hy, h]
theorem cmpW_eq : ∀ (a b : List Int32), (∀ x ∈ a, x.toInt8.toInt32 = x) → (∀ x ∈ b, x.toInt8.toInt32 = x) → cmpW a b = 0 → a = b := by
  intro a
  induction a with
  | nil =>
    intro b _ _ h
    cases b with
    | nil => rfl
    | cons y b => exact absurd h (by show ¬ -((y :: b).length : Int) = 0; simp only [List.length_cons]; omega)
  | cons x a ih =>
    intro b ha hb h
    cases b with
    | nil => exact absurd h (by show ¬ ((x :: a).length : Int) = 0; simp only [List.length_cons]; omega)
    | cons y b =>
      have h : (if x = y then cmpW a b else u8 x - u8 y) = 0 := h
      by_cases c : x = y
      · rw [if_pos c] at h
        rw [c, ih b (fun z hz => ha z (List.mem_cons_of_mem _ hz)) (fun z hz => hb z (List.mem_cons_of_mem _ hz)) h]
      · rw [if_neg c] at h
        exact absurd (u8_inj (ha x List.mem_cons_self) (hb y List.mem_cons_self) (by omega)) c
/-- the order of scores and names -/
def LZ (a b : AE) : Prop := a.2.2 < b.2.2 ∨ (a.2.2 = b.2.2 ∧ cmpW a.1 b.1 < 0)
theorem LZ.tr {a b c : AE} (h : LZ a b) (g : LZ b c) : LZ a c := by
  rcases h with h | ⟨h1, h2⟩
  · rcases g with g | ⟨g1, g2⟩
    · exact Or.inl (Int64.lt_trans h g)
    · exact Or.inl (by rw [← g1]; exact h)
  · rcases g with g | ⟨g1, g2⟩
    · exact Or.inl (by rw [h1]; exact g)
    · exact Or.inr ⟨h1.trans g1, cmpW_trans _ _ _ h2 g2⟩
theorem rk_gt (s : Int64) (v : List Int32) : ∀ (l : List AE), ∀ z ∈ l.take (rkR s v l), s < z.2.2 ∨ (z.2.2 = s ∧ 0 < cmpW z.1 v) := by
  intro l
  induction l with
  | nil => intro z hz; simp at hz
  | cons y r ih =>
    intro z hz
    have e : rkR s v (y :: r) = if s < y.2.2 ∨ (y.2.2 = s ∧ 0 < cmpW y.1 v) then rkR s v r + 1 else 0 := rfl
    rw [e] at hz
    by_cases c : s < y.2.2 ∨ (y.2.2 = s ∧ 0 < cmpW y.1 v)
    · rw [if_pos c, List.take_succ_cons] at hz
      rcases List.mem_cons.mp hz with rfl | hz
      · exact c
      · exact ih z hz
    · rw [if_neg c] at hz; simp at hz
theorem rk_stop (s : Int64) (v : List Int32) : ∀ (l : List AE) (h : AE) (t : List AE), l.drop (rkR s v l) = h :: t → ¬ (s < h.2.2 ∨ (h.2.2 = s ∧ 0 < cmpW h.1 v)) := by
  intro l
  induction l with
  | nil => intro h t e; simp at e
  | cons y r ih =>
    intro h t e
    have e0 : rkR s v (y :: r) = if s < y.2.2 ∨ (y.2.2 = s ∧ 0 < cmpW y.1 v) then rkR s v r + 1 else 0 := rfl
    rw [e0] at e
    by_cases c : s < y.2.2 ∨ (y.2.2 = s ∧ 0 < cmpW y.1 v)
    · rw [if_pos c, List.drop_succ_cons] at e; exact ih h t e
    · rw [if_neg c] at e
      cases e; exact c
theorem rk_ZP {s : Int64} {v : List Int32} {es : List AE} (h : ZP es) (hn : ∀ z ∈ es, ¬ cmpW z.1 v = 0) : ZP (rkE s v es) := by
  unfold rkE
  obtain ⟨k, hk⟩ : ∃ k, k = rkR s v es.reverse := ⟨_, rfl⟩
  rw [← hk]
  have hkl : k ≤ es.length := by rw [hk]; have := rkR_le s v es.reverse; rw [List.length_reverse] at this; exact this
  have h0 : ZP (es.take (es.length - k) ++ es.drop (es.length - k)) := by rw [List.take_append_drop]; exact h
  obtain ⟨p1, p2, p3⟩ := List.pairwise_append.mp h0
  have hi : ∀ z ∈ es.drop (es.length - k), LZ (v, [], s) z := by
    intro z hz
    have hz2 : z ∈ es.reverse.take k := by rw [List.take_reverse]; exact List.mem_reverse.mpr hz
    rw [hk] at hz2
    rcases rk_gt s v es.reverse z hz2 with c | ⟨c1, c2⟩
    · exact Or.inl c
    · exact Or.inr ⟨c1.symm, by show cmpW v z.1 < 0; rw [cmpW_anti z.1 v]; omega⟩
  have lo : ∀ z ∈ es.take (es.length - k), LZ z (v, [], s) := by
    intro z hz
    have ed : es.reverse.drop k = (es.take (es.length - k)).reverse := List.drop_reverse
    cases el : es.reverse.drop k with
    | nil =>
      have : es.take (es.length - k) = [] := by rw [ed] at el; exact List.reverse_eq_nil_iff.mp el
      rw [this] at hz; cases hz
    | cons y t =>
      have hs := rk_stop s v es.reverse y t (by rw [← hk]; exact el)
      have hym : y ∈ es := by
        have : y ∈ (es.take (es.length - k)).reverse := by rw [← ed, el]; exact List.mem_cons_self
        exact List.mem_of_mem_take (List.mem_reverse.mp this)
      have hy : LZ y (v, [], s) := by
        have hne := hn y hym
        by_cases c : y.2.2 < s
        · exact Or.inl c
        · have c2 : ¬ s < y.2.2 := fun z => hs (Or.inl z)
          have ce : y.2.2 = s := Int64.le_antisymm (Int64.not_lt.mp c2) (Int64.not_lt.mp c)
          exact Or.inr ⟨ce, by show cmpW y.1 v < 0; have : ¬ 0 < cmpW y.1 v := fun z => hs (Or.inr ⟨ce, z⟩); omega⟩
      have hp : (y :: t).Pairwise (fun a b => (LZ b a) ∧ ¬ cmpW b.1 a.1 = 0) := by
        rw [← el, ed, List.pairwise_reverse]; exact p1
      have hzm : z ∈ y :: t := by rw [← el, ed]; exact List.mem_reverse.mpr hz
      rcases List.mem_cons.mp hzm with rfl | hzt
      · exact hy
      · exact ((List.pairwise_cons.mp hp).1 z hzt).1.tr hy
  refine List.pairwise_append.mpr ⟨p1, List.pairwise_cons.mpr ⟨fun b hb => ⟨hi b hb, fun e => ?_⟩, p2⟩, fun a ha b hb => ?_⟩
  · have e : cmpW v b.1 = 0 := e
    have := hn b (List.mem_of_mem_drop hb)
    rw [cmpW_anti v b.1] at this; omega
  · rcases List.mem_cons.mp hb with rfl | hb
    · exact ⟨lo a ha, hn a (List.mem_of_mem_take ha)⟩
    · exact p3 a ha b hb
theorem rk_mem {s : Int64} {v : List Int32} {es : List AE} {z : AE} (h : z ∈ rkE s v es) : z ∈ es ∨ z = (v, [], s) := by
  unfold rkE at h
  rcases List.mem_append.mp h with h | h
  · exact Or.inl (List.mem_of_mem_take h)
  · rcases List.mem_cons.mp h with h | h
    · exact Or.inr h
    · exact Or.inl (List.mem_of_mem_drop h)
theorem fd_none {v : List Int32} : ∀ {es : List AE}, fdE v es = none → ∀ z ∈ es, ¬ cmpW z.1 v = 0 := by
  intro es
  induction es with
  | nil => intro _ z hz; cases hz
  | cons y r ih =>
    intro h z hz
    have h : (if cmpW y.1 v = 0 then some 0 else (fdE v r).map (fun i => i + 1)) = none := h
    by_cases c : cmpW y.1 v = 0
    · rw [if_pos c] at h; cases h
    · rw [if_neg c] at h
      have h2 : fdE v r = none := by cases e : fdE v r with | none => rfl | some i => rw [e] at h; cases h
      rcases List.mem_cons.mp hz with rfl | hz
      · exact c
      · exact ih h2 z hz
theorem fd_some {v : List Int32} : ∀ {es : List AE} {i : Nat}, fdE v es = some i → ∃ P z Q, es = P ++ z :: Q ∧ P.length = i ∧ cmpW z.1 v = 0 := by
  intro es
  induction es with
  | nil => intro i h; cases h
  | cons y r ih =>
    intro i h
    have h : (if cmpW y.1 v = 0 then some 0 else (fdE v r).map (fun i => i + 1)) = some i := h
    by_cases c : cmpW y.1 v = 0
    · rw [if_pos c] at h; cases h; exact ⟨[], y, r, rfl, rfl, c⟩
    · rw [if_neg c] at h
      cases e : fdE v r with
      | none => rw [e] at h; cases h
      | some j =>
        rw [e] at h
        have h : some (j + 1) = some i := h
        cases h
        obtain ⟨P, z, Q, e1, e2, e3⟩ := ih e
        exact ⟨y :: P, z, Q, by rw [e1]; rfl, by rw [List.length_cons, e2], e3⟩
/-- the element is taken out, so the name is not there -/
theorem fd_rm {v : List Int32} {es : List AE} {i : Nat} (hz : ZP es) (hw : ∀ z ∈ es, WOK z.1) (hv : WOK v) (h : fdE v es = some i) : ∀ z ∈ rmE i es, ¬ cmpW z.1 v = 0 := by
  obtain ⟨P, y, Q, rfl, rfl, hy⟩ := fd_some h
  rw [rmE_at]
  intro z hzm c
  have ey : y.1 = v := cmpW_eq _ _ (hw y (List.mem_append_right _ List.mem_cons_self)).2 hv.2 hy
  obtain ⟨p1, p2, p3⟩ := List.pairwise_append.mp hz
  rcases List.mem_append.mp hzm with hzm | hzm
  · have := (p3 z hzm y List.mem_cons_self).2
    rw [ey] at this; exact this c
  · have := ((List.pairwise_cons.mp p2).1 z hzm).2
    rw [ey, cmpW_anti z.1 v, c] at this; exact this rfl
theorem rk_els {s : Int64} {v : List Int32} (hv : WOK v) {es : List AE} (h : ELS 4 es) (hn : ∀ z ∈ es, ¬ cmpW z.1 v = 0) : ELS 4 (rkE s v es) ∧ rkE s v es ≠ [] := by
  obtain ⟨h1, h2⟩ := e4.mp h
  refine ⟨e4.mpr ⟨rk_ZP h1 hn, fun z hz => ?_⟩, ne_len (by rw [(rkE_m s v es).2]; omega)⟩
  rcases rk_mem hz with hz | rfl
  · exact h2 z hz
  · exact ⟨hv, rfl⟩
/-- one score comes, or changes -/
def curO (A : List AK) (w : List Int32) (cur : Option Nat) : Prop := cur = kyI A w
theorem zIx_none {A : List AK} {w v : List Int32} (h : zIx A (kyI A w) v = none) {p : Nat} {a : AK} (hk : kyI A w = some p) (ha : A[p]? = some a) : fdE v a.2.2.2.2.2 = none := by
  unfold zIx at h
  rw [hk] at h
  have h : (match A[p]? with | none => none | some a => (match fdE v a.2.2.2.2.2 with | none => none | some i => (match a.2.2.2.2.2[i]? with | some z => some (i, z.2.2) | none => none))) = none := h
  rw [ha] at h
  have h : (match fdE v a.2.2.2.2.2 with | none => none | some i => (match a.2.2.2.2.2[i]? with | some z => some (i, z.2.2) | none => none)) = none := h
  cases e : fdE v a.2.2.2.2.2 with
  | none => rfl
  | some i =>
    rw [e] at h
    obtain ⟨P, z, Q, e1, e2, e3⟩ := fd_some e
    have h : (match a.2.2.2.2.2[i]? with | some z => some (i, z.2.2) | none => none) = none := h
    rw [e1, ← e2, List.getElem?_append_right (Nat.le_refl _), Nat.sub_self] at h
    cases h
theorem zIx_some {A : List AK} {w v : List Int32} {q : Nat × Int64} (h : zIx A (kyI A w) v = some q) : ∃ p a, kyI A w = some p ∧ A[p]? = some a ∧ fdE v a.2.2.2.2.2 = some q.1 := by
  unfold zIx at h
  cases hk : kyI A w with
  | none => rw [hk] at h; cases h
  | some p =>
    rw [hk] at h
    obtain ⟨a, ha, -⟩ := kyI_get hk
    have h : (match A[p]? with | none => none | some a => (match fdE v a.2.2.2.2.2 with | none => none | some i => (match a.2.2.2.2.2[i]? with | some z => some (i, z.2.2) | none => none))) = some q := h
    rw [ha] at h
    have h : (match fdE v a.2.2.2.2.2 with | none => none | some i => (match a.2.2.2.2.2[i]? with | some z => some (i, z.2.2) | none => none)) = some q := h
    cases e : fdE v a.2.2.2.2.2 with
    | none => rw [e] at h; cases h
    | some i =>
      rw [e] at h
      have h : (match a.2.2.2.2.2[i]? with | some z => some (i, z.2.2) | none => none) = some q := h
      cases f : a.2.2.2.2.2[i]? with
      | none => rw [f] at h; cases h
      | some z => rw [f] at h; cases h; exact ⟨p, a, rfl, ha, e⟩
theorem g_zn {A : List AK} {w v : List Int32} {sc : Int64} (hA : IA A) (hs : soT A w 4 = true) (hw : WOK w) (hv : WOK v) : IA (zNew A w (kyI A w) (zIx A (kyI A w) v) sc v).1 ∧ MS A (zNew A w (kyI A w) (zIx A (kyI A w) v) sc v).1 1 (w.length + v.length) 1 (64 + w.length + (v.length + 48)) w.length ∧ (kyI A w ≠ none → MS A (zNew A w (kyI A w) (zIx A (kyI A w) v) sc v).1 0 v.length 1 (v.length + 48) 0) ∧ soT (zNew A w (kyI A w) (zIx A (kyI A w) v) sc v).1 w 4 = true ∧ kyI (zNew A w (kyI A w) (zIx A (kyI A w) v) sc v).1 w = some (zNew A w (kyI A w) (zIx A (kyI A w) v) sc v).2 := by
  cases hx : zIx A (kyI A w) v with
  | none =>
    have en : zNew A w (kyI A w) none sc v = (upA (orA A w 4).1 (orA A w 4).2 (esF (rkE sc v)), (orA A w 4).2) := by unfold zNew; cases kyI A w <;> rfl
    rw [en]
    have hu : ∀ a, kA A w 4 a → AOK (esF (rkE sc v) a) ∧ tT [esF (rkE sc v) a] ≤ tT [a] + v.length ∧ eN [esF (rkE sc v) a] ≤ eN [a] + 1 ∧ kM (esF (rkE sc v) a) ≤ kM a + (v.length + 48 * 1) := by
      intro a ka
      have es := kA_so hs ka
      have hel : ELS 4 a.2.2.2.2.2 ∧ ∀ z ∈ a.2.2.2.2.2, ¬ cmpW z.1 v = 0 := by
        rcases ka with ⟨_, rfl⟩ | ⟨p, h1, h2⟩
        · exact ⟨ELS_nil 4, fun z hz => by cases hz⟩
        · exact ⟨(soT_ky hA hs h1 h2).2.2, fd_none (zIx_none hx h1 h2)⟩
      obtain ⟨g1, g2⟩ := rk_els (s := sc) hv hel.1 hel.2
      have m := rkE_m sc v a.2.2.2.2.2
      have k := kM_es (a := a) (g := rkE sc v) (x1 := v.length) (x2 := 1) (by omega) (by omega)
      rw [es] at k
      refine ⟨?_, k⟩
      rcases kA_ok hA ka with rfl | ok
      · exact ⟨hw, Nat.zero_le _, g1, fun _ => ⟨g2, rfl⟩, Or.inl ⟨rfl, rfl⟩, Or.inr (Or.inr (Or.inr (Or.inr rfl)))⟩
      · exact AOK_es ok (by rw [es]; exact g1) g2
    obtain ⟨k1, k2⟩ := mkU (f := esF (rkE sc v)) hA (fun _ => rfl) hu
    obtain ⟨t1, t2⟩ := mkE_so (g := rkE sc v) hA hs
    refine ⟨k1, k2, fun hk => ?_, t1, t2⟩
    cases h : kyI A w with
    | none => exact absurd h hk
    | some p =>
      obtain ⟨a, ha, -⟩ := kyI_get h
      rw [orA_some h]
      exact (upU hA ha rfl (hu a (Or.inr ⟨p, h, ha⟩))).2
  | some q =>
    obtain ⟨p, a, h1, h2, h3⟩ := zIx_some hx
    rw [h1]
    show IA (upA A p (fun a => esF (rkE sc v) (esF (rmE q.1) a))) ∧ MS A (upA A p (fun a => esF (rkE sc v) (esF (rmE q.1) a))) 1 _ 1 _ _ ∧ (_ → MS A (upA A p (fun a => esF (rkE sc v) (esF (rmE q.1) a))) 0 _ 1 _ _) ∧ soT (upA A p (fun a => esF (rkE sc v) (esF (rmE q.1) a))) w 4 = true ∧ kyI (upA A p (fun a => esF (rkE sc v) (esF (rmE q.1) a))) w = some p
    obtain ⟨s1, s2, s3⟩ := soT_ky hA hs h1 h2
    have e4' := e4.mp s3
    have hrm := fd_rm e4'.1 (fun z hz => (e4'.2 z hz).1) hv h3
    obtain ⟨g1, g2⟩ := rk_els (s := sc) hv (s3.sub (rmE_sub _ q.1)) hrm
    have m := rkE_m sc v (rmE q.1 a.2.2.2.2.2)
    have m2 := rmE_m a.2.2.2.2.2 q.1
    have k := kM_es (a := a) (g := fun es => rkE sc v (rmE q.1 es)) (x1 := v.length) (x2 := 1) (by show eT (rkE sc v (rmE q.1 a.2.2.2.2.2)) ≤ _; omega) (by show (rkE sc v (rmE q.1 a.2.2.2.2.2)).length ≤ _; omega)
    rw [s1] at k
    have u := upU (f := fun a => esF (rkE sc v) (esF (rmE q.1) a)) hA h2 rfl ⟨AOK_es (g := fun es => rkE sc v (rmE q.1 es)) s2 (by rw [s1]; exact g1) g2, k⟩
    have ek : kyI (upA A p (fun a => esF (rkE sc v) (esF (rmE q.1) a))) w = some p := (kyI_up A p (fun a => esF (rkE sc v) (esF (rmE q.1) a)) (fun _ => rfl) w).trans h1
    refine ⟨u.1, u.2.up (by omega) (by omega) (Nat.le_refl _) (by show v.length + 48 * 1 ≤ _; omega) (Nat.zero_le _), fun _ => u.2, ?_, ek⟩
    unfold soT
    rw [ek]
    show (match (upA A p (fun a => esF (rkE sc v) (esF (rmE q.1) a)))[p]? with | some a => decide (a.2.1 = 4) | none => true) = true
    rw [upA_get, if_pos rfl, h2]
    exact decide_eq_true s1
theorem zaE (nx xx gt lt inc : Int32) {w : List Int32} (hw : WOK w) : ∀ (n : Nat) (vs : List (List Int32)) (A : List AK), vs.length ≤ n → IA A → soT A w 4 = true → kyI A w ≠ none → (∀ v ∈ vs, WOK v) → IA (zaA nx xx gt lt inc w A (kyI A w) vs) ∧ MS A (zaA nx xx gt lt inc w A (kyI A w) vs) 0 (sl vs) (vs.length / 2) (sl vs + 48 * (vs.length / 2)) 0 := by
  intro n
  induction n with
  | zero =>
    intro vs A hn hA _ _ _
    cases vs with
    | nil => exact ⟨hA, MS.rf⟩
    | cons a r => simp at hn
  | succ n ih =>
    intro vs A hn hA hs hk hv
    cases vs with
    | nil => exact ⟨hA, MS.rf⟩
    | cons s r =>
      cases r with
      | nil => exact ⟨hA, MS.rf.up (Nat.zero_le _) (Nat.zero_le _) (Nat.zero_le _) (Nat.zero_le _) (Nat.zero_le _)⟩
      | cons v r =>
        have hr : r.length ≤ n := by simp only [List.length_cons] at hn; omega
        have hv2 : ∀ x ∈ r, WOK x := fun x hx => hv x (List.mem_cons_of_mem _ (List.mem_cons_of_mem _ hx))
        have hvv := hv v (List.mem_cons_of_mem _ List.mem_cons_self)
        have hl : sl (s :: v :: r) = s.length + (v.length + sl r) := rfl
        have hd : (s :: v :: r).length / 2 = r.length / 2 + 1 := by simp only [List.length_cons]; omega
        rw [hl, hd]
        show IA (match intF s with | none => A | some s0 => if zGo nx xx gt lt (zIx A (kyI A w) v) (zSc nx inc (zIx A (kyI A w) v) s0) = true then zaA nx xx gt lt inc w (zNew A w (kyI A w) (zIx A (kyI A w) v) (zSc nx inc (zIx A (kyI A w) v) s0) v).1 (some (zNew A w (kyI A w) (zIx A (kyI A w) v) (zSc nx inc (zIx A (kyI A w) v) s0) v).2) r else zaA nx xx gt lt inc w A (kyI A w) r) ∧ MS A (match intF s with | none => A | some s0 => if zGo nx xx gt lt (zIx A (kyI A w) v) (zSc nx inc (zIx A (kyI A w) v) s0) = true then zaA nx xx gt lt inc w (zNew A w (kyI A w) (zIx A (kyI A w) v) (zSc nx inc (zIx A (kyI A w) v) s0) v).1 (some (zNew A w (kyI A w) (zIx A (kyI A w) v) (zSc nx inc (zIx A (kyI A w) v) s0) v).2) r else zaA nx xx gt lt inc w A (kyI A w) r) 0 _ _ _ _
        cases intF s with
        | none => exact ⟨hA, MS.rf.up (Nat.zero_le _) (Nat.zero_le _) (Nat.zero_le _) (Nat.zero_le _) (Nat.zero_le _)⟩
        | some s0 =>
          simp only
          obtain ⟨g1, g2, g3, g4, g5⟩ := g_zn (sc := zSc nx inc (zIx A (kyI A w) v) s0) hA hs hw hvv
          by_cases c : zGo nx xx gt lt (zIx A (kyI A w) v) (zSc nx inc (zIx A (kyI A w) v) s0) = true
          · rw [if_pos c]
            obtain ⟨k1, k2⟩ := ih r _ hr g1 g4 (by rw [g5]; exact fun z => by cases z) hv2
            rw [g5] at k1 k2
            exact ⟨k1, ((g3 hk).tr k2).up (Nat.le_refl _) (by omega) (by omega) (by omega)⟩
          · rw [if_neg c]
            obtain ⟨k1, k2⟩ := ih r A hr hA hs hk hv2
            exact ⟨k1, k2.up (Nat.le_refl _) (by omega) (by omega) (by omega)⟩
theorem zaG (nx xx gt lt inc : Int32) {w : List Int32} (hw : WOK w) : ∀ (n : Nat) (vs : List (List Int32)) (A : List AK), vs.length ≤ n → IA A → soT A w 4 = true → (∀ v ∈ vs, WOK v) → IA (zaA nx xx gt lt inc w A (kyI A w) vs) ∧ MS A (zaA nx xx gt lt inc w A (kyI A w) vs) 1 (w.length + sl vs) (vs.length / 2) (64 + w.length + (sl vs + 48 * (vs.length / 2))) w.length := by
  intro n
  induction n with
  | zero =>
    intro vs A hn hA _ _
    cases vs with
    | nil => exact ⟨hA, MS.rf.up (Nat.zero_le _) (Nat.zero_le _) (Nat.zero_le _) (Nat.zero_le _) (Nat.zero_le _)⟩
    | cons a r => simp at hn
  | succ n ih =>
    intro vs A hn hA hs hv
    cases vs with
    | nil => exact ⟨hA, MS.rf.up (Nat.zero_le _) (Nat.zero_le _) (Nat.zero_le _) (Nat.zero_le _) (Nat.zero_le _)⟩
    | cons s r =>
      cases r with
      | nil => exact ⟨hA, MS.rf.up (Nat.zero_le _) (Nat.zero_le _) (Nat.zero_le _) (Nat.zero_le _) (Nat.zero_le _)⟩
      | cons v r =>
        have hr : r.length ≤ n := by simp only [List.length_cons] at hn; omega
        have hv2 : ∀ x ∈ r, WOK x := fun x hx => hv x (List.mem_cons_of_mem _ (List.mem_cons_of_mem _ hx))
        have hvv := hv v (List.mem_cons_of_mem _ List.mem_cons_self)
        have hl : sl (s :: v :: r) = s.length + (v.length + sl r) := rfl
        have hd : (s :: v :: r).length / 2 = r.length / 2 + 1 := by simp only [List.length_cons]; omega
        rw [hl, hd]
        show IA (match intF s with | none => A | some s0 => if zGo nx xx gt lt (zIx A (kyI A w) v) (zSc nx inc (zIx A (kyI A w) v) s0) = true then zaA nx xx gt lt inc w (zNew A w (kyI A w) (zIx A (kyI A w) v) (zSc nx inc (zIx A (kyI A w) v) s0) v).1 (some (zNew A w (kyI A w) (zIx A (kyI A w) v) (zSc nx inc (zIx A (kyI A w) v) s0) v).2) r else zaA nx xx gt lt inc w A (kyI A w) r) ∧ MS A (match intF s with | none => A | some s0 => if zGo nx xx gt lt (zIx A (kyI A w) v) (zSc nx inc (zIx A (kyI A w) v) s0) = true then zaA nx xx gt lt inc w (zNew A w (kyI A w) (zIx A (kyI A w) v) (zSc nx inc (zIx A (kyI A w) v) s0) v).1 (some (zNew A w (kyI A w) (zIx A (kyI A w) v) (zSc nx inc (zIx A (kyI A w) v) s0) v).2) r else zaA nx xx gt lt inc w A (kyI A w) r) 1 _ _ _ _
        cases intF s with
        | none => exact ⟨hA, MS.rf.up (Nat.zero_le _) (Nat.zero_le _) (Nat.zero_le _) (Nat.zero_le _) (Nat.zero_le _)⟩
        | some s0 =>
          simp only
          obtain ⟨g1, g2, g3, g4, g5⟩ := g_zn (sc := zSc nx inc (zIx A (kyI A w) v) s0) hA hs hw hvv
          by_cases c : zGo nx xx gt lt (zIx A (kyI A w) v) (zSc nx inc (zIx A (kyI A w) v) s0) = true
          · rw [if_pos c]
            obtain ⟨k1, k2⟩ := zaE nx xx gt lt inc hw n r _ hr g1 g4 (by rw [g5]; exact fun z => by cases z) hv2
            rw [g5] at k1 k2
            exact ⟨k1, (g2.tr k2).up (Nat.le_refl _) (by omega) (by omega) (by omega)⟩
          · rw [if_neg c]
            obtain ⟨k1, k2⟩ := ih r A hr hA hs hv2
            exact ⟨k1, k2.up (Nat.le_refl _) (by omega) (by omega) (by omega)⟩
theorem g_zd {A A' : List AK} {w : List Int32} {vs : List (List Int32)} {nx xx gt lt inc : Int32} (hA : IA A) (hs : soT A w 4 = true) (hw : WOK w) (hv : ∀ v ∈ vs, WOK v) (h : zdF nx xx gt lt inc A w vs = some A') : IA A' ∧ MS A A' 1 (w.length + sl vs) (vs.length / 2) (64 + w.length + (sl vs + 48 * (vs.length / 2))) w.length := by
  unfold zdF at h
  by_cases c : zaB nx inc A (kyI A w) vs = true
  · rw [if_pos c] at h; cases h
  · rw [if_neg c] at h
    by_cases c2 : zaN nx xx gt lt inc w A (kyI A w) vs = 0
    · rw [if_pos c2] at h; cases h
    · rw [if_neg c2] at h; cases h; exact zaG _ _ _ _ _ hw vs.length vs A (Nat.le_refl _) hA hs hv
theorem g_zi {A A' : List AK} {w v : List Int32} {n : Int64} (hA : IA A) (hs : soT A w 4 = true) (hw : WOK w) (hv : WOK v) (h : ziF A w v n = some A') : IA A' ∧ MS A A' 1 (w.length + v.length) 1 (64 + w.length + (v.length + 48)) w.length := by
  unfold ziF at h
  cases hx : zIx A (kyI A w) v with
  | none =>
    rw [hx] at h; cases h
    have g := g_zn (sc := n) hA hs hw hv
    rw [hx] at g
    exact ⟨g.1, g.2.1⟩
  | some q =>
    rw [hx] at h
    have h : (if ovI q.2 n = 0 ∧ ¬ n = 0 then some (zNew A w (kyI A w) (some q) (q.2 + n) v).1 else none) = some A' := h
    by_cases c : ovI q.2 n = 0 ∧ ¬ n = 0
    · rw [if_pos c] at h; cases h
      have g := g_zn (sc := q.2 + n) hA hs hw hv
      rw [hx] at g
      exact ⟨g.1, g.2.1⟩
    · rw [if_neg c] at h; cases h
end GROW3
