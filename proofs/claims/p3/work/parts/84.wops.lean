/-! The store's methods over the world. -/
section WOPS
variable {Y : Nat → MethodName × ByteArray} {d : Nat}
def upA : List AK → Nat → (AK → AK) → List AK
  | [], _, _ => []
  | a :: r, 0, f => f a :: r
  | a :: r, p + 1, f => a :: upA r p f
theorem upA_at (P : List AK) (a : AK) (Q : List AK) (f : AK → AK) : upA (P ++ a :: Q) P.length f = P ++ f a :: Q := by
  induction P with
  | nil => rfl
  | cons p r ih => show p :: upA (r ++ a :: Q) r.length f = _; rw [ih]; rfl
def rmA : List AK → Nat → List AK
  | [], _ => []
  | _ :: r, 0 => r
  | a :: r, p + 1 => a :: rmA r p
theorem rmA_at (P : List AK) (a : AK) (Q : List AK) : rmA (P ++ a :: Q) P.length = P ++ Q := by
  induction P with
  | nil => rfl
  | cons p r ih => show p :: rmA (r ++ a :: Q) r.length = _; rw [ih]; rfl
def inA (A : List AK) (p : Nat) (a : AK) : List AK := A.take p ++ a :: A.drop p
theorem gtA (P : List AK) (a : AK) (Q : List AK) : (P ++ a :: Q)[P.length]? = some a := by
  rw [List.getElem?_append_right (Nat.le_refl _), Nat.sub_self]; rfl
theorem strip_up {P Q : List KR} {x y : KR} {f : AK → AK} (h : st1 y = f (st1 x)) : strip (P ++ y :: Q) = upA (strip (P ++ x :: Q)) P.length f := by
  rw [strip_app, strip_cons, strip_app, strip_cons, h]
  have e := upA_at (strip P) (st1 x) (strip Q) f
  rw [strip_len] at e
  exact e.symm
theorem strip_rm {P Q : List KR} {x : KR} : strip (P ++ Q) = rmA (strip (P ++ x :: Q)) P.length := by
  rw [strip_app, strip_app, strip_cons]
  have e := rmA_at (strip P) (st1 x) (strip Q)
  rw [strip_len] at e
  exact e.symm
theorem strip_gt {P Q : List KR} {x : KR} : (strip (P ++ x :: Q))[P.length]? = some (st1 x) := by
  rw [strip_app, strip_cons]
  have e := gtA (strip P) (st1 x) (strip Q)
  rw [strip_len] at e
  exact e
theorem strip_in {ks : List KR} {p : Nat} {y : KR} : strip (ks.take p ++ y :: ks.drop p) = inA (strip ks) p (st1 y) := by
  rw [strip_app, strip_cons]; unfold inA strip; rw [List.map_take, List.map_drop]
theorem inA_tT (A : List AK) (p : Nat) (a : AK) : tT (inA A p a) = tT A + tT [a] ∧ (inA A p a).length = A.length + 1 ∧ eN (inA A p a) = eN A + eN [a] := by
  unfold inA
  have e : A = A.take p ++ A.drop p := (List.take_append_drop p A).symm
  refine ⟨?_, ?_, ?_⟩
  · rw [tT_app]; conv => rhs; rw [e, tT_app]
    show _ + (_ + tT (A.drop p)) = _
    show tT (A.take p) + (a.1.length + a.2.2.2.2.1.length + eT a.2.2.2.2.2 + tT (A.drop p)) = tT (A.take p) + tT (A.drop p) + (a.1.length + a.2.2.2.2.1.length + eT a.2.2.2.2.2 + 0)
    omega
  · rw [List.length_append, List.length_cons]; conv => rhs; rw [e, List.length_append]
    omega
  · rw [eN_app]; conv => rhs; rw [e, eN_app]
    show eN (A.take p) + (a.2.2.2.2.2.length + eN (A.drop p)) = eN (A.take p) + eN (A.drop p) + (a.2.2.2.2.2.length + 0)
    omega
/-- a key is made -/
theorem w_makeKey {σ : mjS} {ws : List (List Int32)} {ks : List KR} {l : List Int32} (h : Wd σ ws ks l) (ty : mjTY σ) {i : Nat} {w : List Int32} (hw : ws[i]? = some w) {x : Int32} (ex : x = nI i) (s : Int32) (ht : tT (strip ks) ≤ 200000) (hn : tT (strip ks) + w.length ≤ 300000) (hk : ks.length < 4700) :
    mjY mjPP (mjQQ Y) (d + 3) 12 0 (mjL0 6 [.ref 0, .int x, .int s]) [] σ (fun r u => ∃ P y Q, r = some (.int (nI y.1)) ∧ Wd u ws (P ++ y :: Q) l ∧ Fr kF kH σ u ∧ strip (P ++ y :: Q) = inA (strip ks) (plF (anm (strip ks)) w) (w, s, 0, 0, [], []) ∧ P.length = plF (anm (strip ks)) w ∧ st1 y = (w, s, 0, 0, [], [])) := by
  obtain ⟨hs, fk, k, fe, hks⟩ := h.fk hk
  rw [ex]
  refine mjY_mono ty (fun _ u _ q => ?_) (c_makeKey hks h.2.1 i w hw s (by rw [tot_T]; exact ht) (by rw [tot_T]; exact hn) ty)
  obtain ⟨e, f, hs', k'⟩ := q
  rw [nms_strip] at k'
  have f' : Fr kF kH σ u := f.up (by decide) (by decide)
  refine ⟨_, (k, w, s, 0, 0, [], []), _, e, h.ks f' ⟨hs', _, _, k'⟩ (by decide) (by decide), f', strip_in, ?_, rfl⟩
  rw [List.length_take]
  refine Nat.min_eq_left ?_
  have := plF_le (anm (strip ks)) w
  unfold anm at this ⊢; rw [List.length_map, strip_len] at this; exact this
theorem w_keep {σ : mjS} {ws : List (List Int32)} {P Q : List KR} {x : KR} {l : List Int32} (h : Wd σ ws (P ++ x :: Q) l) (ty : mjTY σ) (r a n : Nat) (hr : mjKd r = 1) (hr2 : r ∉ tyH) (ha : a + n ≤ mjLn r) (hlr : mjLn r < 2 ^ 30) (ht : tT (strip (P ++ x :: Q)) ≤ 200000) (hn : tT (strip (P ++ x :: Q)) + n ≤ 300000) {xk xa xn : Int32} (ek : xk = nI x.1) (ea : xa = nI a) (en : xn = nI n) :
    mjY mjPP (mjQQ Y) (d + 3) 75 0 (mjL0 5 [.ref 0, .int xk, .ref r, .int xa, .int xn]) [] σ (fun q u => q = none ∧ Wd u ws (P ++ withT x (wd (σ.2.2.1 r) a n) :: Q) l ∧ Fr kF kH σ u) := by
  obtain ⟨hs, fk, fe, k⟩ := h.1
  rw [ek, ea, en]
  refine mjY_mono ty (fun _ u _ q => ?_) (c_keep k (by rw [tot_T]; exact ht) r a n hr hr2 ha hlr (by rw [tot_T]; exact hn) ty)
  obtain ⟨e, f, hs', k'⟩ := q
  have f' : Fr kF kH σ u := f.up (by decide) (by decide)
  exact ⟨e, h.ks f' ⟨hs', _, _, k'⟩ (by decide) (by decide), f'⟩
theorem w_name {σ : mjS} {ws : List (List Int32)} {P Q : List KR} {x : KR} {l : List Int32} {y : ER} {E1 E2 : List ER} (h : Wd σ ws (P ++ x :: Q) l) (ty : mjTY σ) (he : x.2.2.2.2.2.2 = E1 ++ y :: E2) (r a n : Nat) (hr : mjKd r = 1) (hr2 : r ∉ tyH) (ha : a + n ≤ mjLn r) (hlr : mjLn r < 2 ^ 30) (ht : tT (strip (P ++ x :: Q)) ≤ 200000) (hn : tT (strip (P ++ x :: Q)) + n ≤ 300000) {xk xa xn : Int32} (ek : xk = nI y.1) (ea : xa = nI a) (en : xn = nI n) :
    mjY mjPP (mjQQ Y) (d + 3) 18 0 (mjL0 5 [.ref 0, .int xk, .ref r, .int xa, .int xn]) [] σ (fun q u => q = none ∧ Wd u ws (P ++ withE x (E1 ++ (y.1, wd (σ.2.2.1 r) a n, y.2.2.1, y.2.2.2) :: E2) :: Q) l ∧ Fr kF kH σ u) := by
  obtain ⟨hs, fk, fe, k⟩ := h.1
  rw [ek, ea, en]
  refine mjY_mono ty (fun _ u _ q => ?_) (c_name k he (by rw [tot_T]; exact ht) r a n hr hr2 ha hlr (by rw [tot_T]; exact hn) ty)
  obtain ⟨e, f, hs', k'⟩ := q
  have f' : Fr kF kH σ u := f.up (by decide) (by decide)
  exact ⟨e, h.ks f' ⟨hs', _, _, k'⟩ (by decide) (by decide), f'⟩
theorem w_give {σ : mjS} {ws : List (List Int32)} {P Q : List KR} {x : KR} {l : List Int32} {y : ER} {E1 E2 : List ER} (h : Wd σ ws (P ++ x :: Q) l) (ty : mjTY σ) (he : x.2.2.2.2.2.2 = E1 ++ y :: E2) (r a n : Nat) (hr : mjKd r = 1) (hr2 : r ∉ tyH) (ha : a + n ≤ mjLn r) (hlr : mjLn r < 2 ^ 30) (ht : tT (strip (P ++ x :: Q)) ≤ 200000) (hn : tT (strip (P ++ x :: Q)) + n ≤ 300000) {xk xa xn : Int32} (ek : xk = nI y.1) (ea : xa = nI a) (en : xn = nI n) :
    mjY mjPP (mjQQ Y) (d + 3) 19 0 (mjL0 5 [.ref 0, .int xk, .ref r, .int xa, .int xn]) [] σ (fun q u => q = none ∧ Wd u ws (P ++ withE x (E1 ++ (y.1, y.2.1, wd (σ.2.2.1 r) a n, y.2.2.2) :: E2) :: Q) l ∧ Fr kF kH σ u) := by
  obtain ⟨hs, fk, fe, k⟩ := h.1
  rw [ek, ea, en]
  refine mjY_mono ty (fun _ u _ q => ?_) (c_give k he (by rw [tot_T]; exact ht) r a n hr hr2 ha hlr (by rw [tot_T]; exact hn) ty)
  obtain ⟨e, f, hs', k'⟩ := q
  have f' : Fr kF kH σ u := f.up (by decide) (by decide)
  exact ⟨e, h.ks f' ⟨hs', _, _, k'⟩ (by decide) (by decide), f'⟩
theorem w_empty {σ : mjS} {ws : List (List Int32)} {P Q : List KR} {x : KR} {l : List Int32} (h : Wd σ ws (P ++ x :: Q) l) (ty : mjTY σ) {xk : Int32} (ek : xk = nI x.1) :
    mjY mjPP (mjQQ Y) (d + 1) 14 0 (mjL0 4 [.ref 0, .int xk]) [] σ (fun q u => q = none ∧ Wd u ws (P ++ bare x x.2.2.1 :: Q) l ∧ Fr kF kH σ u) := by
  obtain ⟨hs, fk, fe, k⟩ := h.1
  rw [ek]
  refine mjY_mono ty (fun _ u _ q => ?_) (c_empty k ty)
  obtain ⟨e, f, k'⟩ := q
  have f' : Fr kF kH σ u := f.up (by decide) (by decide)
  exact ⟨e, h.ks f' ⟨_, _, _, k'⟩ (by decide) (by decide), f'⟩
theorem w_drop {σ : mjS} {ws : List (List Int32)} {P Q : List KR} {x : KR} {l : List Int32} (h : Wd σ ws (P ++ x :: Q) l) (ty : mjTY σ) {xk : Int32} (ek : xk = nI x.1) :
    mjY mjPP (mjQQ Y) (d + 2) 15 0 (mjL0 4 [.ref 0, .int xk]) [] σ (fun q u => q = none ∧ Wd u ws (P ++ Q) l ∧ Fr kF kH σ u) := by
  obtain ⟨hs, fk, fe, k⟩ := h.1
  rw [ek]
  refine mjY_mono ty (fun _ u _ q => ?_) (c_dropKey k ty)
  obtain ⟨e, f, k'⟩ := q
  have f' : Fr kF kH σ u := f.up (by decide) (by decide)
  exact ⟨e, h.ks f' ⟨_, _, _, k'⟩ (by decide) (by decide), f'⟩
theorem w_insert {σ : mjS} {ws : List (List Int32)} {P Q : List KR} {x : KR} {l : List Int32} {E1 E2 : List ER} (h : Wd σ ws (P ++ x :: Q) l) (ty : mjTY σ) (he : x.2.2.2.2.2.2 = E1 ++ E2) (hn : eN (strip (P ++ x :: Q)) < 10000) {xk xb : Int32} (ek : xk = nI x.1) (eb : xb = lst (-1) (ids E1)) :
    mjY mjPP (mjQQ Y) d 16 0 (mjL0 5 [.ref 0, .int xk, .int xb]) [] σ (fun q u => ∃ e : Nat, e < 10000 ∧ q = some (.int (nI e)) ∧ Wd u ws (P ++ withE x (E1 ++ (e, [], [], 0) :: E2) :: Q) l ∧ Fr kF kH σ u) := by
  obtain ⟨hs, fk, e, fe, k⟩ := h.fe hn
  rw [ek, eb]
  refine mjY_mono ty (fun _ u _ q => ?_) (c_insert k he ty)
  obtain ⟨e', f, k'⟩ := q
  have f' : Fr kF kH σ u := f.up (by decide) (by decide)
  exact ⟨e, k.2.2.2.2.2.2.2.2.2.2.2.1 e (List.mem_append_right _ List.mem_cons_self), e', h.ks f' ⟨_, _, _, k'⟩ (by decide) (by decide), f'⟩
theorem w_unlink {σ : mjS} {ws : List (List Int32)} {P Q : List KR} {x : KR} {l : List Int32} {y : ER} {E1 E2 : List ER} (h : Wd σ ws (P ++ x :: Q) l) (ty : mjTY σ) (he : x.2.2.2.2.2.2 = E1 ++ y :: E2) {xk xe : Int32} (ek : xk = nI x.1) (ee : xe = nI y.1) :
    mjY mjPP (mjQQ Y) d 17 0 (mjL0 3 [.ref 0, .int xk, .int xe]) [] σ (fun q u => q = none ∧ Wd u ws (P ++ withE x (E1 ++ E2) :: Q) l ∧ Fr kF kH σ u) := by
  obtain ⟨hs, fk, fe, k⟩ := h.1
  rw [ek, ee]
  refine mjY_mono ty (fun _ u _ q => ?_) (c_unlink k he ty)
  obtain ⟨e', f, k'⟩ := q
  have f' : Fr kF kH σ u := f.up (by decide) (by decide)
  exact ⟨e', h.ks f' ⟨_, _, _, k'⟩ (by decide) (by decide), f'⟩
abbrev kH1 : List Nat := r_disturbed :: kH
theorem Fr.k1 {σ u : mjS} (f : Fr kF kH1 σ u) : Fr cF cH σ u := f.up (by decide) (by decide)
set_option maxRecDepth 100000 in
theorem w_goneKey {σ : mjS} {ws : List (List Int32)} {P Q : List KR} {x : KR} {l : List Int32} (h : Wd σ ws (P ++ x :: Q) l) (ty : mjTY σ) {xk : Int32} (ek : xk = nI x.1) :
    mjY mjPP (mjQQ Y) (d + 3) 79 0 (mjL0 2 [.ref 0, .int xk]) [] σ (fun q u => q = none ∧ Wd u ws (P ++ Q) l ∧ Fr kF kH1 σ u) := by
  refine mjZ_y rfl rfl 3 _ _ _ _ ty ?_
  refine (And.intro (Nat.le_of_ble_eq_true rfl) (And.intro rfl (And.intro (Nat.le_of_ble_eq_true rfl) (And.intro (Nat.le_of_ble_eq_true rfl) (mjY_mono ty (fun q_ u1 ty1 h_ => ?_) (w_touch h ty (List.mem_append_right _ List.mem_cons_self) ek))))))
  obtain ⟨rfl, h1, f1⟩ := h_
  intro _
  refine mjZ_y rfl rfl 3 _ _ _ _ ty1 ?_
  refine (And.intro (Nat.le_of_ble_eq_true rfl) (And.intro rfl (And.intro (Nat.le_of_ble_eq_true rfl) (And.intro (Nat.le_of_ble_eq_true rfl) (mjY_mono ty1 (fun q_ u2 ty2 h_ => ?_) (w_drop h1 ty1 ek))))))
  obtain ⟨rfl, h2, f2⟩ := h_
  intro _
  refine mjZ_y rfl rfl 1 _ _ _ _ ty2 ?_
  refine And.intro rfl (And.intro rfl ?_)
  exact ⟨rfl, h2, (f1.up (by decide) (by decide)).tr (f2.up (by decide) (by decide))⟩
set_option maxRecDepth 100000 in
theorem w_settle {σ : mjS} {ws : List (List Int32)} {P Q : List KR} {x : KR} {l : List Int32} (h : Wd σ ws (P ++ x :: Q) l) (ty : mjTY σ) {xk : Int32} (ek : xk = nI x.1) (hn : x.2.2.2.2.2.2.length < 2 ^ 30) :
    mjY mjPP (mjQQ Y) (d + 3) 102 0 (mjL0 2 [.ref 0, .int xk]) [] σ (fun q u => q = none ∧ Fr kF kH1 σ u ∧ ((x.2.2.2.2.2.2 = [] ∧ Wd u ws (P ++ Q) l) ∨ (x.2.2.2.2.2.2 ≠ [] ∧ Wd u ws (P ++ x :: Q) l))) := by
  have hx : x ∈ P ++ x :: Q := List.mem_append_right _ List.mem_cons_self
  refine mjZ_y rfl rfl 3 _ _ _ _ ty ?_
  refine (And.intro (Nat.le_of_ble_eq_true rfl) (And.intro rfl (And.intro (Nat.le_of_ble_eq_true rfl) (And.intro (Nat.le_of_ble_eq_true rfl) (mjY_mono ty (fun q_ u1 ty1 h_ => ?_) (w_touch h ty hx ek))))))
  obtain ⟨rfl, h1, f1⟩ := h_
  intro _
  obtain ⟨hs, hh, hk⟩ := h1.kok hx
  have vk : vp_in xk 4700 := by rw [ek]; exact vp_in_nI hk.1 (by decide)
  have ck : xk.toNatClampNeg = x.1 := by rw [ek]; exact nI_clamp (by have := hk.1; omega)
  have em : u1.2.2.1 r_kMany xk.toNatClampNeg = nI x.2.2.2.2.2.2.length := by rw [ck]; exact hk.2.2.2.2.2.2.2.2.1
  refine mjZ_y rfl rfl 5 _ _ _ _ ty1 ?_
  refine (And.intro rfl (And.intro rfl (And.intro vk (And.intro (fun q => ?_) (fun q => ?_)))))
  · refine mjZ_y rfl rfl 1 _ _ _ _ ty1 ?_
    refine And.intro rfl (And.intro rfl ?_)
    refine ⟨rfl, f1.up (by decide) (by decide), Or.inr ⟨fun e => q ?_, h1⟩⟩
    show u1.2.2.1 r_kMany xk.toNatClampNeg = 0
    rw [em, e]; rfl
  · have e0 : x.2.2.2.2.2.2 = [] := by
      have q : u1.2.2.1 r_kMany xk.toNatClampNeg = nI 0 := Decidable.of_not_not q
      rw [em] at q
      exact List.length_eq_zero_iff.mp ((nI_eq (by omega) (by omega)).mp q)
    refine mjZ_y rfl rfl 3 _ _ _ _ ty1 ?_
    refine (And.intro (Nat.le_of_ble_eq_true rfl) (And.intro rfl (And.intro (Nat.le_of_ble_eq_true rfl) (And.intro (Nat.le_of_ble_eq_true rfl) (mjY_mono ty1 (fun q_ u2 ty2 h_ => ?_) (w_drop h1 ty1 ek))))))
    obtain ⟨rfl, h2, f2⟩ := h_
    intro _
    refine mjZ_y rfl rfl 1 _ _ _ _ ty2 ?_
    refine And.intro rfl (And.intro rfl ?_)
    exact ⟨rfl, (f1.up (by decide) (by decide)).tr (f2.up (by decide) (by decide)), Or.inl ⟨e0, h2⟩⟩
end WOPS
