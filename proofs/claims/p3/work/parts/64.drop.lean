/-! dropKey: a key leaves the store. -/
section DROP
variable {Y : Nat → MethodName × ByteArray} {d : Nat}
theorem ks_drop {σ u : mjS} {hs : Nat} {A B : List KR} {x : KR} {fk fe : List Nat} (h : KS σ hs (A ++ x :: B) fk fe) (he : x.2.2.2.2.2.2 = []) (f : Fr [f_keys, f_kFrees] [r_order, r_kFree] σ u) (g1 : u.1 f_keys = nI (A ++ B).length) (g2 : u.1 f_kFrees = nI (fk.length + 1))
    (o : ∀ j, u.2.2.1 r_order j = if A.length ≤ j ∧ j < (A ++ B).length then σ.2.2.1 r_order (j + 1) else σ.2.2.1 r_order j) (hF : ∀ j, u.2.2.1 r_kFree j = if j = fk.length then nI x.1 else σ.2.2.1 r_kFree j) : KS u hs (A ++ B) (fk ++ [x.1]) fe := by
  obtain ⟨a1, a2, a3, a4, a5, a6, a7, a8, a9, a10, a11, a12, a13, a14, a15, a16, a17⟩ := h
  have row : ∀ g, g ∉ [r_order, r_kFree] → u.2.2.1 g = σ.2.2.1 g := fun g hg => (f.2.2 g hg).1
  have hx : x ∈ A ++ x :: B := List.mem_append_right _ List.mem_cons_self
  have sub : ∀ y, y ∈ A ++ B → y ∈ A ++ x :: B := fun y hy => (List.mem_append.mp hy).elim (fun q => List.mem_append_left _ q) (fun q => List.mem_append_right _ (List.mem_cons_of_mem _ q))
  have ee : eIds (A ++ x :: B) = eIds (A ++ B) := by rw [eIds_app, eIds_app, eIds_cons, he]; rfl
  have ep : (kIds (A ++ B) ++ (fk ++ [x.1])).Perm (kIds (A ++ x :: B) ++ fk) := by
    rw [kIds_app, kIds_app, kIds_cons, List.append_assoc, List.append_assoc]
    refine List.Perm.append_left _ ?_
    rw [← List.append_assoc]
    exact List.perm_append_comm
  have aK : ∀ j, AgK σ u j := fun j => ⟨fun g hg => by rw [row g ((by decide : ∀ g ∈ kRows, g ∉ [r_order, r_kFree]) g hg)], by rw [(f.2.2 r_kTime (by decide)).2]⟩
  have aE : ∀ j, AgE σ u j := fun j => ⟨fun g hg => by rw [row g ((by decide : ∀ g ∈ eRows, g ∉ [r_order, r_kFree]) g hg)], by rw [(f.2.2 r_eScore (by decide)).2]⟩
  have aH : AgH σ u hs := fun j _ => by rw [row r_heap (by decide)]
  have gg : ∀ (g j : Nat), g ∉ [r_order, r_kFree] → GA σ g j → GA u g j := fun g j hg q => by
    obtain ⟨p, p1, p2⟩ := q
    exact ⟨p, p1, by rw [row g hg]; exact p2⟩
  rw [ee] at a11 a12 a13
  refine ⟨(f.1 _ (by decide)).trans a1, a2, g1, ?_, fun y hy => (a5 y (sub y hy)).fr (aK _) (fun e _ => aE e) aH (Nat.le_refl _), by rw [g2, List.length_append]; rfl, ?_, ep.nodup_iff.mpr a8, fun k hk => a9 k (ep.mem_iff.mp hk), ep.length_eq.trans a10, a11, a12, a13, (f.1 _ (by decide)).trans a14, FSEG.fr a15 (fun j _ => by rw [row r_eNext (by decide)]), fun e hh => ⟨gg _ _ (by decide) (a16 e hh).1, gg _ _ (by decide) (a16 e hh).2⟩, ?_⟩
  · intro i y hy
    have hi := (List.getElem?_eq_some_iff.mp hy).1
    rw [o]
    by_cases c : i < A.length
    · rw [if_neg (by omega)]
      rw [List.getElem?_append_left c] at hy
      exact a4 i y (by rw [List.getElem?_append_left c]; exact hy)
    · rw [if_pos ⟨by omega, hi⟩]
      rw [List.getElem?_append_right (by omega)] at hy
      refine a4 (i + 1) y ?_
      rw [List.getElem?_append_right (by omega), show i + 1 - A.length = (i - A.length) + 1 by omega]
      exact hy
  · intro i k hi
    rw [hF]
    by_cases c : i < fk.length
    · rw [if_neg (by omega)]
      rw [List.getElem?_append_left c] at hi
      exact a7 i k hi
    · have hl := (List.getElem?_eq_some_iff.mp hi).1
      rw [List.length_append] at hl
      have c2 : i = fk.length := by have : [x.1].length = 1 := rfl; omega
      rw [if_pos c2]
      rw [c2, List.getElem?_append_right (Nat.le_refl _), Nat.sub_self] at hi
      exact congrArg nI (Option.some.inj hi)
  · intro k hk
    rcases List.mem_append.mp hk with hk | hk
    · exact ⟨gg _ _ (by decide) (a17 k hk).1, gg _ _ (by decide) (a17 k hk).2⟩
    · have e : k = x.1 := List.mem_singleton.mp hk
      subst e
      obtain ⟨-, ⟨p, p1, p2, -⟩, -, -, -, ⟨q, q1, q2, -⟩, -⟩ := a5 x hx
      exact ⟨gg _ _ (by decide) ⟨p, p1, p2⟩, gg _ _ (by decide) ⟨q, q1, q2⟩⟩
set_option maxRecDepth 100000 in
theorem c_drop_1 (K : mjK) {σ : mjS} {hs : Nat} {A B : List KR} {x : KR} {fk fe : List Nat} (h : KS σ hs (A ++ x :: B) fk fe) (ty : mjTY σ) (l3 : Option Value) (hK : mjY mjPP (mjQQ Y) d 15 13 [some (.ref 0), some (.int (nI x.1)), some (.int (nI A.length)), l3] [] σ K) : ∀ (m i : Nat) (x2 : Int32), x2 = nI i → i + m = A.length →
    mjY mjPP (mjQQ Y) d 15 5 [some (.ref 0), some (.int (nI x.1)), some (.int x2), l3] [] σ K := by
  have hl := ks_len h
  rw [List.length_append, List.length_cons] at hl
  obtain ⟨a1, a2, a3, a4, a5, a6, a7, a8, a9, a10, -⟩ := h
  have hx : x ∈ A ++ x :: B := List.mem_append_right _ List.mem_cons_self
  have k1 := (a5 x hx).1
  intro m
  induction m with
  | zero =>
    intro i x2 e2 hi
    have hi : i = A.length := by omega
    subst hi; subst e2
    have ic : (nI A.length).toNatClampNeg = A.length := nI_clamp (by omega)
    refine mjZ_y rfl rfl 6 _ _ _ _ ty ?_
    refine And.intro rfl (And.intro rfl (And.intro (vp_in_nI (by show A.length < 4700; omega) (by decide)) ?_))
    refine And.intro (fun _ => hK) (fun c => absurd ?_ c)
    show σ.2.2.1 r_order (nI A.length).toNatClampNeg = nI x.1
    rw [ic]
    exact a4 A.length x (by rw [List.getElem?_append_right (Nat.le_refl _), Nat.sub_self]; rfl)
  | succ m ih =>
    intro i x2 e2 hi
    subst e2
    have ic : (nI i).toNatClampNeg = i := nI_clamp (by omega)
    have hiA : i < A.length := by omega
    refine mjZ_y rfl rfl 8 _ _ _ _ ty ?_
    refine And.intro rfl (And.intro rfl (And.intro (vp_in_nI (by show i < 4700; omega) (by decide)) ?_))
    refine And.intro (fun c => ?_) (fun _ => ih (i + 1) _ (nI_1 i) (by omega))
    exfalso
    have c : σ.2.2.1 r_order (nI i).toNatClampNeg = nI x.1 := c
    have hy : (A ++ x :: B)[i]? = some A[i] := by rw [List.getElem?_append_left hiA]; exact List.getElem?_eq_getElem hiA
    rw [ic, a4 i _ hy] at c
    have m1 : A[i] ∈ A := List.getElem_mem hiA
    have y1 := (a5 A[i] (List.mem_append_left _ m1)).1
    have c2 := (nI_eq (by omega) (by omega)).mp c
    rw [kIds_app, kIds_cons] at a8
    exact (List.nodup_append.mp (List.nodup_append.mp a8).1).2.2 _ (mem_kIds m1) x.1 List.mem_cons_self c2
set_option maxRecDepth 100000 in
theorem c_drop_2 (K : mjK) (k a n : Nat) (hn : n < 4700) (x2 : Int32) (O : Nat → Int32) : ∀ (m i : Nat) (σ : mjS) (x3 : Int32), x3 = nI (a + i) → a + i + m = n → mjTY σ → σ.1 f_keys = nI n → σ.2.2.1 r_order = va_cpy O O (a + 1) a i →
    (∀ u l3, mjTY u → Fr [] [r_order] σ u → u.2.2.1 r_order = va_cpy O O (a + 1) a (n - a) → mjY mjPP (mjQQ Y) d 15 37 [some (.ref 0), some (.int (nI k)), some (.int x2), l3] [] u K) →
    mjY mjPP (mjQQ Y) d 15 21 [some (.ref 0), some (.int (nI k)), some (.int x2), some (.int x3)] [] σ K := by
  intro m
  induction m with
  | zero =>
    intro i σ x3 e3 hi ty ek eo hK
    subst e3
    refine mjZ_y rfl rfl 4 _ _ _ _ ty ?_
    refine And.intro rfl (And.intro (fun _ => hK σ _ ty Fr.rf (by rw [eo]; exact congrArg (va_cpy O O (a + 1) a) (by omega))) (fun c => absurd ?_ c))
    show σ.1 f_keys ≤ nI (a + i)
    rw [ek]; exact nI_le (by omega) (by omega)
  | succ m ih =>
    intro i σ x3 e3 hi ty ek eo hK
    subst e3
    have ic : (nI (a + i)).toNatClampNeg = a + i := nI_clamp (by omega)
    have jc : (nI (a + i) + 1).toNatClampNeg = a + i + 1 := by rw [nI_1]; exact nI_clamp (by omega)
    refine mjZ_y rfl rfl 16 _ _ _ _ ty ?_
    refine And.intro rfl (And.intro (fun c => absurd (show σ.1 f_keys ≤ nI (a + i) from c) (by rw [ek]; exact nI_ge (by omega) (by omega))) (fun _ => ?_))
    refine And.intro rfl (And.intro rfl (And.intro rfl (And.intro (show vp_in (nI (a + i) + 1) 4700 by rw [nI_1]; exact vp_in_nI (by omega) (by decide)) (And.intro rfl (And.intro (vp_in_nI (by show a + i < 4700; omega) (by decide)) (fun ty1 => ?_))))))
    refine ih (i + 1) _ _ (nI_1 (a + i)) (by omega) ty1 ek ?_ (fun u l3 tu fu pu => hK u l3 tu ((Fr.a (by decide)).tr fu) pu)
    show mjIu σ.2.2.1 r_order (nI (a + i)).toNatClampNeg (σ.2.2.1 r_order (nI (a + i) + 1).toNatClampNeg) r_order = _
    rw [mjIu_self, ic, jc, eo, ← cpy_s]
    refine congrArg (upd _ (a + i)) ?_
    unfold va_cpy
    rw [if_neg (by omega)]
    exact congrArg O (by omega)
end DROP
