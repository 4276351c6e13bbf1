/-! tidy and room as wholes. -/
section TIDY4
variable {Y : Nat → MethodName × ByteArray} {d : Nat}
set_option maxRecDepth 100000 in
theorem c_tidy_back (K : mjK) (p : Nat) (hp : p ≤ 200000) (l3 l4 : Option Value) (S H0 : Nat → Int32) : ∀ (j k : Nat) (σ : mjS) (x : Int32), x = nI k → k + j = p → mjTY σ → σ.2.2.1 r_heap2 = S → σ.2.2.1 r_heap = va_cpy S H0 0 0 k →
    (∀ u, Fr [f_heapSize] [r_heap] σ u → u.1 f_heapSize = nI p → u.2.2.1 r_heap = va_cpy S H0 0 0 p → K none u) → mjY mjPP (mjQQ Y) d 5 118 [some (.ref 0), some (.int (nI p)), some (.int x), l3, l4] [] σ K := by
  intro j
  induction j with
  | zero =>
    intro k σ x ex hk ty eS eH hK
    have ek : k = p := by omega
    subst ek; subst ex
    refine mjZ_y rfl rfl 7 _ _ _ _ ty ?_
    refine And.intro (fun _ => And.intro rfl (And.intro (Or.inl rfl) (fun ty1 => And.intro rfl (And.intro rfl (hK _ (Fr.i (by decide)) (show upd σ.1 f_heapSize (nI k) f_heapSize = nI k from pk_us) eH))))) (fun c => absurd (show nI k ≤ nI k from nI_le (Nat.le_refl _) (by omega)) c)
  | succ j ih =>
    intro k σ x ex hk ty eS eH hK
    subst ex
    have i1 : (nI k).toNatClampNeg = k := nI_clamp (by omega)
    refine mjZ_y rfl rfl 13 _ _ _ _ ty ?_
    refine And.intro (fun c => absurd (show nI p ≤ nI k from c) (nI_ge (by omega) (by omega))) (fun _ => ?_)
    refine And.intro rfl (And.intro rfl (And.intro (Or.inl rfl) (And.intro (vp_in_nI (by show k < 200000; omega) (by decide)) (And.intro (Or.inl ⟨rfl, ty.2.1 r_heap2 _ rfl⟩) (And.intro (vp_in_nI (by show k < 300000; omega) (by decide)) (fun ty1 => ?_))))))
    refine ih (k + 1) _ _ (nI_1 k) (by omega) ty1 ?_ ?_ (fun u fu pu qu => hK u ((Fr.a (by decide)).tr fu) pu qu)
    · exact (mjIu_ne (a := σ.2.2.1) (i := (nI k).toNatClampNeg) (v := σ.2.2.1 r_heap2 (nI k).toNatClampNeg) (h := r_heap) (g := r_heap2) (by decide)).trans eS
    · show mjIu σ.2.2.1 r_heap (nI k).toNatClampNeg (σ.2.2.1 r_heap2 (nI k).toNatClampNeg) r_heap = _
      rw [mjIu_self, i1, eS, eH, ← cpy_s, Nat.zero_add]
theorem seg_same {σ u : mjS} {q : Int32} : ∀ {l : List Nat} {p : Int32}, SEG σ p l q → u.2.2.1 r_ePrev = σ.2.2.1 r_ePrev → u.2.2.1 r_eNext = σ.2.2.1 r_eNext → SEG u p l q := by
  intro l
  induction l with
  | nil => intro p h _ _; trivial
  | cons e r ih =>
    intro p h h1 h2
    obtain ⟨g1, g2, g3⟩ := seg_cons.mp h
    exact seg_cons.mpr ⟨by rw [h1]; exact g1, by rw [h2]; exact g2, ih g3 h1 h2⟩
abbrev tyH : List Nat := [r_heap, r_heap2, r_kAt, r_tAt, r_eAt, r_vAt]
/-- how many bytes all words have -/
def tot (ks : List KR) : Nat := ceN (ceA ks)
theorem ks_tidy {s0 σ u : mjS} {hs p : Nat} {ks : List KR} {fk fe : List Nat} (hks : KS s0 hs ks fk fe) (hp : p ≤ 200000) (h : TI s0 σ p (ceA ks)) (f : Fr [f_heapSize] [r_heap] σ u) (e1 : u.1 f_heapSize = nI p) (e2 : u.2.2.1 r_heap = va_cpy (σ.2.2.1 r_heap2) (σ.2.2.1 r_heap) 0 0 p) : KS u p ks fk fe := by
  obtain ⟨a1, a2, a3, a4, a5, a6, a7, a8, a9, a10, a11, a12, a13, a14, a15, a16, a17⟩ := hks
  have f0 : Fr [f_heapSize] tyH s0 u := (h.1.up (fun _ q => by cases q) (by decide)).tr (f.up (by decide) (by decide))
  have row : ∀ g, g ∉ tyH → u.2.2.1 g = s0.2.2.1 g := fun g hg => (f0.2.2 g hg).1
  have rg : ∀ hA hL i w v, (hA, hL, i, w) ∈ ceA ks → hA ∈ atH → hL ∉ tyH → RG s0 hs hA hL i v → w = v → RG u p hA hL i v := by
    intro hA hL i w v hm hA1 hL1 hr e
    subst e
    obtain ⟨a, b1, b2, b3⟩ := h.2.2.1 _ hm
    obtain ⟨-, -, -, c3, -⟩ := hr
    have b2 : a + w.length ≤ p := b2
    refine ⟨a, by omega, ?_, by rw [row hL hL1]; exact c3, Or.inr ⟨b2, ?_⟩⟩
    · rw [(f.2.2 hA ((by decide : ∀ g ∈ atH, g ∉ [r_heap]) hA hA1)).1]; exact b1
    · rw [e2]
      refine Eq.trans (wd_congr fun k hk => ?_) b3
      have hk : k < w.length := hk
      unfold va_cpy
      rw [if_pos (by omega)]
      exact congrArg (σ.2.2.1 r_heap2) (by omega)
  have ga : ∀ g i, g ∈ atH → (g, i) ∉ (ceA ks).map ceK → GA s0 g i → GA u g i := by
    intro g i hg hm ⟨q, q1, q2⟩
    exact ⟨q, q1, by rw [(f.2.2 g ((by decide : ∀ g ∈ atH, g ∉ [r_heap]) g hg)).1, h.2.1 g i ((by decide : ∀ g ∈ atH, g ≠ r_heap2) g hg) hm]; exact q2⟩
  have n8 := List.nodup_append.mp a8
  have n11 := List.nodup_append.mp a11
  have cx : ∀ x ∈ ks, ∀ c ∈ ceX x, c ∈ ceA ks := fun x hx c hc => List.mem_flatMap.mpr ⟨x, hx, hc⟩
  refine ⟨e1, by omega, (f0.1 _ (by decide)).trans a3, by rw [row r_order (by decide)]; exact a4, fun x hx => ?_, (f0.1 _ (by decide)).trans a6, by rw [row r_kFree (by decide)]; exact a7, a8, a9, a10, a11, a12, a13, (f0.1 _ (by decide)).trans a14, FSEG.fr a15 (fun j _ => by rw [row r_eNext (by decide)]), fun e he => ?_, fun k hk => ?_⟩
  · obtain ⟨k1, k2, k3, k4, k5, k6, k7, k8, k9, k10, k11⟩ := a5 x hx
    refine ⟨k1, rg _ _ _ _ _ (cx x hx _ List.mem_cons_self) (by decide) (by decide) k2 rfl, by rw [row r_kSort (by decide)]; exact k3, by rw [row r_kTimed (by decide)]; exact k4, by rw [(f0.2.2 r_kTime (by decide)).2]; exact k5, rg _ _ _ _ _ (cx x hx _ (List.mem_cons_of_mem _ List.mem_cons_self)) (by decide) (by decide) k6 rfl, by rw [row r_kHead (by decide)]; exact k7, by rw [row r_kTail (by decide)]; exact k8, by rw [row r_kMany (by decide)]; exact k9, ?_, fun y hy => ?_⟩
    · exact seg_same k10 (row r_ePrev (by decide)) (row r_eNext (by decide))
    · have cy : ∀ c ∈ ceE y, c ∈ ceA ks := fun c hc => cx x hx c (List.mem_cons_of_mem _ (List.mem_cons_of_mem _ (List.mem_flatMap.mpr ⟨y, hy, hc⟩)))
      obtain ⟨y1, y2, y3, y4⟩ := k11 y hy
      exact ⟨y1, rg _ _ _ _ _ (cy _ List.mem_cons_self) (by decide) (by decide) y2 rfl, rg _ _ _ _ _ (cy _ (List.mem_cons_of_mem _ List.mem_cons_self)) (by decide) (by decide) y3 rfl, by rw [(f0.2.2 r_eScore (by decide)).2]; exact y4⟩
  · have nn : e ∉ eIds ks := fun q => n11.2.2 e q e he rfl
    exact ⟨ga _ _ (by decide) (fun q => (mem_ceA q).elim (fun z => absurd z.1 (by decide)) (fun z => nn z.2)) (a16 e he).1, ga _ _ (by decide) (fun q => (mem_ceA q).elim (fun z => absurd z.1 (by decide)) (fun z => nn z.2)) (a16 e he).2⟩
  · have nn : k ∉ kIds ks := fun q => n8.2.2 k q k hk rfl
    exact ⟨ga _ _ (by decide) (fun q => (mem_ceA q).elim (fun z => nn z.2) (fun z => absurd z.1 (by decide))) (a17 k hk).1, ga _ _ (by decide) (fun q => (mem_ceA q).elim (fun z => nn z.2) (fun z => absurd z.1 (by decide))) (a17 k hk).2⟩
end TIDY4
