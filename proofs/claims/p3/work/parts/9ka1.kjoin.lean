/-! What each command does, joined with the reference's function. -/
theorem tb_nm : ∀ j, j < 105 → tb (txC j) = nm (rid j) := by decide +kernel
/-- what is noted of an effect -/
def NTE (ws : Req) (j : Nat) (σ u : kS) : Eff → Prop
  | none => u.1 59 18 = σ.1 59 18
  | some (_, i, as) => u.1 59 18 = 1 ∧ ∃ w1 wv, NTF u ws j w1 wv ∧ ntC (u.1 53 13) (u.1 53 15) (u.2.1 53 16) j ws w1 wv = nm i :: as
def cmP (B : List (List Int32)) (σ : kS) (ws nmm : List (List Int32)) (ks : List KC) (j : Nat) (e : Eff) : kK := fun r u => r = none ∧ ∃ nm' ks', PRE nmm nm' ∧ KWd σ B u ws nm' ks' ∧ RSD ks' ∧ SCl scQ σ u ∧ skA ks' = efA (skA ks) e ∧ NTE ws j σ u e
/-- a time is kept that is past -/
def KPZ (rp : Int32) (now : Int64) (A : List AK) (ws : Req) : Prop := rp = 0 ∧ ∃ f ot p a, osR ws now = some (f, ot) ∧ f.2.2.2 = 1 ∧ goB f.1 f.2.1 A (gw ws 1) = true ∧ sfB 2 f.2.2.1 ws A = true ∧ kyI A (gw ws 1) = some p ∧ A[p]? = some a ∧ endE a ≤ now
/-- what the class does for a request -/
noncomputable def rnC (rp : Int32) (now : Int64) (ks : List KC) (j : Nat) (ws : Req) : Eff := @ite _ (fuB rp ks j ∨ (rid j = 19 ∧ sbC (gw ws 2) (gw ws 3) = none)) (Classical.propDecidable _) none (@ite _ (rid j = 2 ∧ KPZ rp now (skA ks) ws) (Classical.propDecidable _) (some (rmA (skA ks) ((kyI (skA ks) (gw ws 1)).getD 0), 22, [gw ws 1])) (rnF (rid j) ws now (decide (¬ rp = 0)) (skA ks)))
/-- the room that a heavy command asks for -/
def PQ (A : List AK) (i : Nat) (ws : Req) : Prop := (i = 78 → 3 * (clA A + 2 * ws.length) ≤ 49000) ∧ (i = 9 ∨ i = 10 → xtA A + sl ws + 16384 ≤ 98304 ∧ A.length + ws.length / 2 ≤ 2600) ∧ (74 ≤ i ∧ i ≤ 76 → 3 * (clA A + 8600) ≤ 49000)
/-- what a command finds -/
def JC (B : List (List Int32)) (σ : kS) (ws nmm : List (List Int32)) (ks : List KC) (j : Nat) : Prop := KWd σ B σ ws nmm ks ∧ RSD ks ∧ BOK B ws ∧ CMD σ j ∧ (σ.1 53 13 = 0 ∧ σ.1 59 18 = 0) ∧ (1 ≤ ws.length ∧ ws.length ≤ 1024) ∧ tkP j (nI (ws.length - 1)) ∧ IA (skA ks) ∧ (∀ w ∈ ws, WOK w) ∧ ks.length + 1 ≤ 2600 ∧ xtA (skA ks) + 16384 ≤ 98304 ∧ 3 * (clA (skA ks) + 1024) ≤ 49000 ∧ eN (skA ks) ≤ 8600 ∧ (rid j = 63 → ∀ n m, intF (gw ws 3) = some n → vhA (skA ks) (gw ws 1) (gw ws 2) = some m → dec (m + n) ∈ B) ∧ ((¬ fuB (σ.1 59 17) ks j) → PQ (skA ks) (rid j) ws) ∧ σ.2.1 59 16 < NEV
theorem tk_lo {j a n : Nat} (ha : (kCmd j).1 = nI a) (h2 : a < 2 ^ 30) (hn : n < 2 ^ 30) (h : tkP j (nI n)) : a ≤ n := by
  have := h.1
  rw [ha, nlt (by omega) (by omega)] at this; omega
theorem tk_hi {j a n : Nat} (ha : (kCmd j).2.1 = nI a) (h2 : a < 2 ^ 30) (hn : n < 2 ^ 30) (h : tkP j (nI n)) : n ≤ a := by
  have := h.2.1
  rw [ha, nlt (by omega) (by omega)] at this; omega
section KJOIN
variable {Y : Nat → MethodName × ByteArray} {d : Nat} {σ u : kS} {B ws nmm nmm' : List (List Int32)} {ks ks' : List KC}
theorem cdP.n {o : Option (List AK)} : ∀ r u, cdP σ B σ ws nmm ks o r u → r = none := fun _ _ h => h.1
theorem cd_cm {j : Nat} (hj : CMD σ j) (h13 : σ.1 53 13 = 0) (hl : 1 ≤ ws.length) {o : Option (List AK)} {r : Option Value} (h : cdP σ B σ ws nmm ks o r u) : cmP B σ ws nmm ks j (nW (rid j) ws o) r u := by
  obtain ⟨hr, nm', ks', p1, w1, r1, s1, q⟩ := h
  have hsub : ∀ p ∈ scQ, p ∈ scG := by decide
  have h8 := (s1 (53, 8) (by decide)).2.2
  have h13u : u.1 53 13 = 0 := (s1 (53, 13) (by decide)).1.trans h13
  refine ⟨hr, nm', ks', p1, w1, r1, fun p hp => s1 p (hsub p hp), ?_⟩
  rcases q with ⟨rfl, q1, q2⟩ | ⟨rfl, q2⟩
  · exact ⟨q1, q2⟩
  · refine ⟨rfl, q2, [], [], ⟨⟨h8.trans hj.1, hj.2⟩, hl, Or.inl h13u⟩, ?_⟩
    unfold ntC
    rw [h13u, if_neg (by decide), if_neg (by decide), if_neg (by decide), tb_nm j hj.2]
variable {j : Nat}
theorem JC.gw_ (h : JC B σ ws nmm ks j) {a k : Nat} (ha : (kCmd j).1 = nI a) (h2 : a < 2 ^ 30) (hk : k ≤ a) : k + 1 ≤ ws.length ∧ ws[k]? = some (gw ws k) := by
  obtain ⟨-, -, -, -, -, ⟨h1, h1024⟩, ht, -⟩ := h
  have := tk_lo ha h2 (by omega) ht
  exact ⟨by omega, gw_at (by omega)⟩
theorem JC.ok (h : JC B σ ws nmm ks j) {x : KC} (hx : x ∈ ks) : AOK x.2.2.2.2.2 := h.2.2.2.2.2.2.2.1.2 _ (List.mem_map.mpr ⟨x, hx, rfl⟩)
theorem JC.s2 (h : JC B σ ws nmm ks j) : ∀ x ∈ ks, x.2.2.2.2.2.2.1 = 2 → SP x.2.2.2.2.2.2.2.2.2.2 := fun x hx c => ((h.ok hx).2.2.1.2.2.2.1 c).1
theorem JC.s3 (h : JC B σ ws nmm ks j) : ∀ x ∈ ks, x.2.2.2.2.2.2.1 = 3 → SP x.2.2.2.2.2.2.2.2.2.2 := fun x hx c => ((h.ok hx).2.2.1.2.2.2.2.1 c).1
theorem JC.s23 (h : JC B σ ws nmm ks j) : ∀ x ∈ ks, x.2.2.2.2.2.2.1 = 2 ∨ x.2.2.2.2.2.2.1 = 3 → SP x.2.2.2.2.2.2.2.2.2.2 := fun x hx c => c.elim (h.s2 x hx) (h.s3 x hx)
theorem JC.s4 (h : JC B σ ws nmm ks j) : ∀ x ∈ ks, x.2.2.2.2.2.2.1 = 4 → ZP x.2.2.2.2.2.2.2.2.2.2 := fun x hx c => ((h.ok hx).2.2.1.2.2.2.2.2 c).1
theorem JC.tx (h : JC B σ ws nmm ks j) : ∀ x ∈ ks, x.2.2.2.2.2.2.2.2.2.1.length ≤ 16384 := fun x hx => (h.ok hx).2.1
theorem JC.em (h : JC B σ ws nmm ks j) : ∀ x ∈ ks, ¬ emB x := fun x hx c => ((h.ok hx).2.2.2.1 c.1).1 c.2
theorem JC.te (h : JC B σ ws nmm ks j) : ∀ x ∈ ks, (endE x.2.2.2.2.2 = NEV ↔ x.2.2.2.2.2.2.2.1 = 0) := fun x hx => by
  have ht := (h.ok hx).2.2.2.2.1
  unfold endE
  refine ⟨fun z => ?_, fun z => if_pos z⟩
  by_cases c : x.2.2.2.2.2.2.2.1 = 0
  · exact c
  · rw [if_neg c] at z
    rcases ht with t | t
    · exact t.1
    · have h3 := t.2.2
      rw [z] at h3
      exact absurd h3 (by decide)
/-- a command over one key -/
theorem cm_1 (ty : kTY σ) (h : JC B σ ws nmm ks j) {i s M D : Nat} {lv : mjL} (hi : rid j = i) (h2 : ¬ i = 2 ∧ (¬ i ∈ tiI) ∧ ¬ i = 19) (hsf : sfB i 0 ws (skA ks) = soT (skA ks) (gw ws 1) (nI s)) (hh : ∀ o, (rfZ (σ.1 59 17) ks j (gw ws 1) s → o = none) → (¬ rfZ (σ.1 59 17) ks j (gw ws 1) s → o = coF i ws (skA ks)) → kjY kPP (kQQ Y) D M 0 lv [] σ (cdP σ B σ ws nmm ks o)) : kjY kPP (kQQ Y) D M 0 lv [] σ (cmP B σ ws nmm ks j (rnC (σ.1 59 17) (σ.2.1 59 16) ks j ws)) := by
  have e : rnC (σ.1 59 17) (σ.2.1 59 16) ks j ws = nW (rid j) ws (@ite _ (rfZ (σ.1 59 17) ks j (gw ws 1) s) (Classical.propDecidable _) none (coF i ws (skA ks))) := by
    unfold rnC
    rw [hi]
    by_cases c : fuB (σ.1 59 17) ks j
    · rw [if_pos (Or.inl c), if_pos (show rfZ (σ.1 59 17) ks j (gw ws 1) s from Or.inl c)]; rfl
    · rw [if_neg (fun z => z.elim c (fun y => h2.2.2 y.1)), if_neg (fun z => h2.1 z.1)]
      unfold rnF
      rw [if_neg h2.1]
      by_cases q : sfB i 0 ws (skA ks) = true
      · rw [if_pos q, if_neg h2.2.1, if_neg (fun z : rfZ (σ.1 59 17) ks j (gw ws 1) s => z.elim c (fun y => by rw [hsf, y] at q; cases q))]
      · rw [if_neg q, if_pos (show rfZ (σ.1 59 17) ks j (gw ws 1) s from Or.inr (by rw [← hsf]; exact Bool.eq_false_iff.mpr q))]; rfl
  rw [e]
  exact kjY_mono ty (fun r u _ _ q => cd_cm h.2.2.2.1 h.2.2.2.2.1.1 h.2.2.2.2.2.1.1 q) (hh _ (fun c => if_pos c) (fun c => if_neg c))
/-- a command over two keys -/
theorem cm_2 (ty : kTY σ) (h : JC B σ ws nmm ks j) {i s M D : Nat} {lv : mjL} (hi : rid j = i) (h2 : ¬ i = 2 ∧ (¬ i ∈ tiI) ∧ ¬ i = 19) (hsf : sfB i 0 ws (skA ks) = (soT (skA ks) (gw ws 1) (nI s) && soT (skA ks) (gw ws 2) (nI s))) (hh : ∀ o, (rfY (σ.1 59 17) ks j (gw ws 1) (gw ws 2) s → o = none) → (¬ rfY (σ.1 59 17) ks j (gw ws 1) (gw ws 2) s → o = coF i ws (skA ks)) → kjY kPP (kQQ Y) D M 0 lv [] σ (cdP σ B σ ws nmm ks o)) : kjY kPP (kQQ Y) D M 0 lv [] σ (cmP B σ ws nmm ks j (rnC (σ.1 59 17) (σ.2.1 59 16) ks j ws)) := by
  have e : rnC (σ.1 59 17) (σ.2.1 59 16) ks j ws = nW (rid j) ws (@ite _ (rfY (σ.1 59 17) ks j (gw ws 1) (gw ws 2) s) (Classical.propDecidable _) none (coF i ws (skA ks))) := by
    unfold rnC
    rw [hi]
    by_cases c : fuB (σ.1 59 17) ks j
    · rw [if_pos (Or.inl c), if_pos (show rfY (σ.1 59 17) ks j (gw ws 1) (gw ws 2) s from Or.inl c)]; rfl
    · rw [if_neg (fun z => z.elim c (fun y => h2.2.2 y.1)), if_neg (fun z => h2.1 z.1)]
      unfold rnF
      rw [if_neg h2.1]
      by_cases q : sfB i 0 ws (skA ks) = true
      · have q2 := q
        rw [hsf, Bool.and_eq_true] at q2
        rw [if_pos q, if_neg h2.2.1, if_neg (fun z : rfY (σ.1 59 17) ks j (gw ws 1) (gw ws 2) s => z.elim c (fun y => y.elim (fun w => by rw [q2.1] at w; cases w) (fun w => by rw [q2.2] at w; cases w)))]
      · have y : rfY (σ.1 59 17) ks j (gw ws 1) (gw ws 2) s := by
          have q3 := q
          rw [hsf, Bool.and_eq_true] at q3
          by_cases w : soT (skA ks) (gw ws 1) (nI s) = true
          · exact Or.inr (Or.inr (Bool.eq_false_iff.mpr (fun z => q3 ⟨w, z⟩)))
          · exact Or.inr (Or.inl (Bool.eq_false_iff.mpr w))
        rw [if_neg q, if_pos y]; rfl
  rw [e]
  exact kjY_mono ty (fun r u _ _ q => cd_cm h.2.2.2.1 h.2.2.2.2.1.1 h.2.2.2.2.2.1.1 q) (hh _ (fun c => if_pos c) (fun c => if_neg c))
/-- a command that asks for no sort -/
theorem cm_0 (ty : kTY σ) (h : JC B σ ws nmm ks j) {i M D : Nat} {lv : mjL} (hi : rid j = i) (h2 : ¬ i = 2 ∧ (¬ i ∈ tiI) ∧ ¬ i = 19) (hsf : sfB i 0 ws (skA ks) = true) (hh : ∀ o, (fuB (σ.1 59 17) ks j → o = none) → (¬ fuB (σ.1 59 17) ks j → o = coF i ws (skA ks)) → kjY kPP (kQQ Y) D M 0 lv [] σ (cdP σ B σ ws nmm ks o)) : kjY kPP (kQQ Y) D M 0 lv [] σ (cmP B σ ws nmm ks j (rnC (σ.1 59 17) (σ.2.1 59 16) ks j ws)) := by
  have e : rnC (σ.1 59 17) (σ.2.1 59 16) ks j ws = nW (rid j) ws (@ite _ (fuB (σ.1 59 17) ks j) (Classical.propDecidable _) none (coF i ws (skA ks))) := by
    unfold rnC
    rw [hi]
    by_cases c : fuB (σ.1 59 17) ks j
    · rw [if_pos (Or.inl c), if_pos c]; rfl
    · rw [if_neg (fun z => z.elim c (fun y => h2.2.2 y.1)), if_neg (fun z : i = 2 ∧ _ => h2.1 z.1), if_neg c]
      unfold rnF
      rw [if_neg h2.1, if_pos hsf, if_neg h2.2.1]
  rw [e]
  exact kjY_mono ty (fun r u _ _ q => cd_cm h.2.2.2.1 h.2.2.2.2.1.1 h.2.2.2.2.2.1.1 q) (hh _ (fun c => if_pos c) (fun c => if_neg c))
/-- a command that changes nothing -/
theorem cm_n (ty : kTY σ) (h : JC B σ ws nmm ks j) {i M D : Nat} {lv : mjL} (hi : rid j = i) (h2 : ¬ i = 2 ∧ ¬ i ∈ tiI) (hco : ∀ A, coF i ws A = none) (hh : kjY kPP (kQQ Y) D M 0 lv [] σ (cdP σ B σ ws nmm ks none)) : kjY kPP (kQQ Y) D M 0 lv [] σ (cmP B σ ws nmm ks j (rnC (σ.1 59 17) (σ.2.1 59 16) ks j ws)) := by
  have e : rnC (σ.1 59 17) (σ.2.1 59 16) ks j ws = nW (rid j) ws none := by
    unfold rnC
    rw [hi]
    by_cases c : fuB (σ.1 59 17) ks j ∨ (i = 19 ∧ sbC (gw ws 2) (gw ws 3) = none)
    · rw [if_pos c]; rfl
    · rw [if_neg c, if_neg (fun z : i = 2 ∧ _ => h2.1 z.1)]
      unfold rnF
      rw [if_neg h2.1, if_neg h2.2, hco]
      by_cases q : sfB i 0 ws (skA ks) = true
      · rw [if_pos q]
      · rw [if_neg q]; rfl
  rw [e]
  exact kjY_mono ty (fun r u _ _ q => cd_cm h.2.2.2.1 h.2.2.2.2.1.1 h.2.2.2.2.2.1.1 q) hh
/-- where the function gives nothing -/
theorem o_no {o : Option (List AK)} {P : Prop} {c : Option (List AK)} (h1 : P → o = none) (h2 : ¬ P → o = c) (hc : c = none) : o = none := by
  by_cases z : P
  · exact h1 z
  · rw [h2 z, hc]
theorem o_b {α : Type} {o : Option (List AK)} {P : Prop} {X : Option α} {f : α → Option (List AK)} (h1 : P → o = none) (h2 : ¬ P → o = X.bind f) (hX : X = none) : o = none := o_no h1 h2 (by rw [hX]; rfl)
theorem o_s {α : Type} {o : Option (List AK)} {P : Prop} {X : Option α} {f : α → Option (List AK)} {a : α} (h2 : ¬ P → o = X.bind f) (hX : X = some a) (np : ¬ P) : o = f a := by rw [h2 np, hX]; rfl
theorem JC.cl (h : JC B σ ws nmm ks j) : 3 * (clA (skA ks) + 1024) ≤ 49000 := h.2.2.2.2.2.2.2.2.2.2.2.1
theorem JC.xt (h : JC B σ ws nmm ks j) : xtA (skA ks) + 16384 ≤ 98304 := h.2.2.2.2.2.2.2.2.2.2.1
theorem JC.k1 (h : JC B σ ws nmm ks j) : ks.length + 1 ≤ 2600 := h.2.2.2.2.2.2.2.2.2.1
theorem JC.n1 (h : JC B σ ws nmm ks j) : 1 ≤ ws.length ∧ ws.length ≤ 1024 := h.2.2.2.2.2.1
theorem JC.wl (h : JC B σ ws nmm ks j) {k : Nat} {v : List Int32} (hk : ws[k]? = some v) : v.length ≤ 16384 := (h.2.2.2.2.2.2.2.2.1 v (List.mem_of_getElem? hk)).1
theorem JC.tk (h : JC B σ ws nmm ks j) : tkP j (nI (ws.length - 1)) := h.2.2.2.2.2.2.1
theorem JC.en (h : JC B σ ws nmm ks j) : eN (skA ks) ≤ 8600 := h.2.2.2.2.2.2.2.2.2.2.2.2.1
theorem JC.bn (h : JC B σ ws nmm ks j) (e : rid j = 63) : ∀ n m, intF (gw ws 3) = some n → vhA (skA ks) (gw ws 1) (gw ws 2) = some m → dec (m + n) ∈ B := h.2.2.2.2.2.2.2.2.2.2.2.2.2.1 e
theorem JC.pq (h : JC B σ ws nmm ks j) (e : ¬ fuB (σ.1 59 17) ks j) : PQ (skA ks) (rid j) ws := h.2.2.2.2.2.2.2.2.2.2.2.2.2.2.1 e
theorem JC.nv (h : JC B σ ws nmm ks j) : σ.2.1 59 16 < NEV := h.2.2.2.2.2.2.2.2.2.2.2.2.2.2.2
theorem JC.ia (h : JC B σ ws nmm ks j) : IA (skA ks) := h.2.2.2.2.2.2.2.1
theorem JC.hj (h : JC B σ ws nmm ks j) : CMD σ j := h.2.2.2.1
theorem JC.hB (h : JC B σ ws nmm ks j) : BOK B ws := h.2.2.1
/-- an even number of words behind the name, an odd one -/
theorem tk_ev {n : Nat} (hn : n < 1024) (hf : ¬ (kCmd j).2.2.2.1 &&& 4 = 0) (h : tkP j (nI n)) : n % 2 = 0 := by
  rcases Nat.mod_two_eq_zero_or_one n with e | e
  · exact e
  · refine absurd (h.2.2.1 (fun z => ?_)) hf
    rw [nI_par n hn] at z; omega
theorem tk_od {n : Nat} (hn : n < 1024) (hf : ¬ (kCmd j).2.2.2.1 &&& 8 = 0) (h : tkP j (nI n)) : n % 2 = 1 := by
  rcases Nat.mod_two_eq_zero_or_one n with e | e
  · exact absurd (h.2.2.2 ((nI_par n hn).mpr e)) hf
  · exact e
end KJOIN
