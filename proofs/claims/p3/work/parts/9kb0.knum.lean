/-! What the class's rooms hold of a live list: the numbers. -/
section KNUM
theorem xtA_B : ∀ A : List AK, xtA A = txB A
  | [] => rfl
  | a :: r => by
    show (if a.2.1 = 0 then a.2.2.2.2.1.length else 0) + xtA r = txQ a + txB r
    rw [xtA_B r]; rfl
theorem ptI_v : ptI 1 = 1 ∧ ptI 2 = 2 ∧ ptI 3 = 1 ∧ ptI 4 = 4 := by decide
theorem memW_v : memW 1 = 16 ∧ memW 2 = 32 ∧ memW 3 = 24 ∧ memW 4 = 48 := by decide
theorem cl_k {a : AK} (h : AOK a) : 16 * (ptI a.2.1 * a.2.2.2.2.2.length) ≤ kM a + 16 * oK a := by
  obtain ⟨p1, p2, p3, p4⟩ := ptI_v
  obtain ⟨m1, m2, m3, m4⟩ := memW_v
  unfold kM oK
  rcases h.2.2.2.2.2 with e | e | e | e | e
  · rw [h.2.2.1.2.1 e]; simp
  · rw [e, p1, m1, if_neg (by decide)]; omega
  · rw [e, p2, m2, if_neg (by decide)]; omega
  · rw [e, p3, m3, if_neg (by decide)]; omega
  · rw [e, p4, m4, if_pos rfl]; omega
theorem cl_B : ∀ A : List AK, (∀ a ∈ A, AOK a) → 16 * clA A ≤ memB A + 16 * oS A
  | [], _ => Nat.le_refl _
  | a :: r, h => by
    have h1 := cl_B r (fun x hx => h x (List.mem_cons_of_mem _ hx))
    have h2 := cl_k (h a (List.mem_cons_self ..))
    show 16 * (ptI a.2.1 * a.2.2.2.2.2.length + clA r) ≤ kM a + memB r + 16 * (oK a + oS r)
    omega
/-- the numbers -/
def NUM (A : List AK) : Prop := A.length + 1 ≤ 2600 ∧ xtA A + 16384 ≤ 98304 ∧ 3 * (clA A + 1024) ≤ 49000 ∧ eN A ≤ 8600
theorem LJ.num {A : List AK} {p : Nat} (h : LJ A p) : NUM A := by
  obtain ⟨⟨h1, h2, ⟨h3, h4⟩, h5, h6, h7⟩, k1, k2, k3, k4, k5⟩ := h
  have c := cl_B A h1.2
  have o : oS A ≤ 2300 := k2
  refine ⟨by omega, by rw [xtA_B]; omega, by omega, h2⟩
/-- a live heavy command has its room -/
theorem LJ.pq {A : List AK} {p : Nat} (h : LJ A p) {ws : Req} (hr : rw ws ≤ p) (hw : 1 ≤ ws.length) (h1024 : ws.length ≤ 1024) (hm : memB A < 60000) (i : Nat) : PQ A i ws := by
  obtain ⟨⟨h1, h2, ⟨h3, h4⟩, h5, h6, h7⟩, k1, k2, k3, k4, k5⟩ := h
  have c := cl_B A h1.2
  have o := oS_mem A
  have t := txB_mem A
  have g := rw_ge ws
  have g2 := rw_ge2 ws 0
  refine ⟨fun _ => by omega, fun _ => ⟨by rw [xtA_B]; omega, by omega⟩, fun _ => by omega⟩
/-- a command that is not heavy asks for nothing more -/
theorem PQ_light {A : List AK} {i : Nat} {ws : Req} (h : ¬ (i = 78 ∨ i = 9 ∨ i = 10 ∨ (74 ≤ i ∧ i ≤ 76))) : PQ A i ws := ⟨fun z => absurd (Or.inl z) h, fun z => absurd (Or.inr (z.elim Or.inl (fun y => Or.inr (Or.inl y)))) h, fun z => absurd (Or.inr (Or.inr (Or.inr z))) h⟩
theorem heavy_pq : ∀ j, j < 105 → (kCmd j).2.2.2.1 &&& 1 = 0 → ¬ (rid j = 78 ∨ rid j = 9 ∨ rid j = 10 ∨ (74 ≤ rid j ∧ rid j ≤ 76)) := by decide +kernel
theorem ew_S {s : Int32} (hs : s = 1 ∨ s = 2 ∨ s = 3 ∨ s = 4) : ∀ es : List AE, (s = 2 ∨ ∀ z ∈ es, z.2.1 = []) → ewS s es = memW s * es.length + eT es
  | [], _ => by show 0 = _ * 0 + 0; omega
  | z :: r, h => by
    have ih := ew_S hs r (h.elim Or.inl (fun y => Or.inr (fun x hx => y x (List.mem_cons_of_mem _ hx))))
    obtain ⟨m1, m2, m3, m4⟩ := memW_v
    show ewt s z + ewS s r = memW s * (r.length + 1) + (z.1.length + z.2.1.length + eT r)
    rw [ih]
    unfold ewt
    rcases hs with rfl | rfl | rfl | rfl
    · have e : z.2.1 = [] := (h.resolve_left (by decide)) z (List.mem_cons_self ..)
      rw [if_pos rfl, m1, e]; simp only [List.length_nil]; omega
    · rw [if_neg (by decide), if_pos rfl, m2]; omega
    · have e : z.2.1 = [] := (h.resolve_left (by decide)) z (List.mem_cons_self ..)
      rw [if_neg (by decide), if_neg (by decide), if_pos rfl, m3, e]; simp only [List.length_nil]; omega
    · have e : z.2.1 = [] := (h.resolve_left (by decide)) z (List.mem_cons_self ..)
      rw [if_neg (by decide), if_neg (by decide), if_neg (by decide), m4, e]; simp only [List.length_nil]; omega
theorem wt_k {a : AK} (h : AOK a) : 64 + a.1.length + wtC a = kM a := by
  obtain ⟨h1, h2, h3, h4, h5, h6⟩ := h
  unfold wtC kM
  rcases h6 with e | e | e | e | e
  · rw [if_pos e, h3.2.1 e]; show _ = _ + _ + _ + _ * 0 + 0; omega
  · have q := h4 (by rw [e]; decide)
    rw [if_neg (by rw [e]; decide), q.2, ew_S (Or.inl e) _ (Or.inr (fun z hz => by rw [h3.2.2.1 e z hz]))]; simp only [List.length_nil]; omega
  · have q := h4 (by rw [e]; decide)
    rw [if_neg (by rw [e]; decide), q.2, ew_S (Or.inr (Or.inl e)) _ (Or.inl e)]; simp only [List.length_nil]; omega
  · have q := h4 (by rw [e]; decide)
    rw [if_neg (by rw [e]; decide), q.2, ew_S (Or.inr (Or.inr (Or.inl e))) _ (Or.inr (fun z hz => by rw [(h3.2.2.2.2.1 e).2 z hz]))]; simp only [List.length_nil]; omega
  · have q := h4 (by rw [e]; decide)
    rw [if_neg (by rw [e]; decide), q.2, ew_S (Or.inr (Or.inr (Or.inr e))) _ (Or.inr (fun z hz => by rw [(h3.2.2.2.2.2 e).2 z hz]))]; simp only [List.length_nil]; omega
/-- the class counts the memory as the reference does -/
theorem cS_B : ∀ ks : List KC, RSD ks → (∀ a ∈ skA ks, AOK a) → cSum ks = nI (memB (skA ks))
  | [], _, _ => rfl
  | x :: r, hr, h => by
    have ih := cS_B r (fun y hy => hr y (List.mem_cons_of_mem _ hy)) (fun y hy => h y (List.mem_cons_of_mem _ hy))
    obtain ⟨q1, q2⟩ := hr x (List.mem_cons_self ..)
    have q1 : x.2.2.2.1 = nI (wtC x.2.2.2.2.2) := q1
    have hk := wt_k (h x.2.2.2.2.2 (List.mem_cons_self ..))
    show x.2.2.2.2.1 + cSum r = nI (kM x.2.2.2.2.2 + memB (skA r))
    rw [ih, q2]
    unfold ctK
    rw [q1, nI_add, nI_add, hk]
theorem fu_B {ks : List KC} (hr : RSD ks) (h : ∀ a ∈ skA ks, AOK a) (hm : memB (skA ks) < 2 ^ 30) {rp : Int32} {j : Nat} : fuB rp ks j ↔ rp = 0 ∧ 60000 ≤ memB (skA ks) ∧ ¬ (kCmd j).2.2.2.1 &&& 1 = 0 := by
  unfold fuB
  rw [cS_B ks hr h, show (60000 : Int32) = nI 60000 from rfl, nlt (Nat.lt_trans hm (by decide)) (by decide)]
  exact ⟨fun z => ⟨z.1, by omega, z.2.2⟩, fun z => ⟨z.1, by omega, z.2.2⟩⟩
/-- a live request's numbers -/
theorem LJ.pqL {ks : List KC} {p : Nat} (h : LJ (skA ks) p) (hr : RSD ks) {ws : Req} (hw : rw ws ≤ p) (h1 : 1 ≤ ws.length) (h1024 : ws.length ≤ 1024) {j : Nat} (hj : j < 105) (c : ¬ fuB 0 ks j) : PQ (skA ks) (rid j) ws := by
  by_cases q : (kCmd j).2.2.2.1 &&& 1 = 0
  · exact PQ_light (heavy_pq j hj q)
  · rw [fu_B hr h.1.1.2 (by have := h.2.2.2.2.1; omega)] at c
    exact h.pq hw h1 h1024 (by
      have : ¬ (60000 ≤ memB (skA ks)) := fun z => c ⟨rfl, z, q⟩
      omega) _
end KNUM
