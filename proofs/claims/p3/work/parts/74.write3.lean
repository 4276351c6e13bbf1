/-! keep, name and give over the store. -/
section WRITE3
variable {Y : Nat → MethodName × ByteArray} {d : Nat}
abbrev wrH : List Nat := [r_heap, r_heap2, r_kAt, r_tAt, r_eAt, r_vAt, r_tLen, r_eLen, r_vLen]
theorem c_keep {σ : mjS} {hs : Nat} {A B : List KR} {x : KR} {fk fe : List Nat} (h : KS σ hs (A ++ x :: B) fk fe) (ht : tot (A ++ x :: B) ≤ 200000) (r a n : Nat) (hr : mjKd r = 1) (hr2 : r ∉ tyH) (ha : a + n ≤ mjLn r) (hlr : mjLn r < 2 ^ 30) (hn : tot (A ++ x :: B) + n ≤ 300000) (ty : mjTY σ) :
    mjY mjPP (mjQQ Y) (d + 3) 75 0 (mjL0 5 [.ref 0, .int (nI x.1), .ref r, .int (nI a), .int (nI n)]) [] σ (fun q u => q = none ∧ Fr [f_heapSize] wrH σ u ∧ ∃ hs', KS u hs' (A ++ withT x (wd (σ.2.2.1 r) a n) :: B) fk fe) := by
  have k1 := (h.2.2.2.2.1 x (List.mem_append_right _ List.mem_cons_self)).1
  refine mjY_mono ty (fun q u tu hu => ?_) (c_keep_w (Y := Y) (d := d) h ht x.1 k1 r a n hr hr2 ha hlr hn ty)
  obtain ⟨e, v, hs', f, k, l, w⟩ := hu
  exact ⟨e, (f.up (fun _ q => q) (by decide)).tr (w.1.up (fun _ q => q) (by decide)), _, ks_keep k w (by rw [wd_len]; exact l)⟩
theorem c_name {σ : mjS} {hs : Nat} {A B : List KR} {x : KR} {fk fe : List Nat} {y : ER} {E1 E2 : List ER} (h : KS σ hs (A ++ x :: B) fk fe) (he : x.2.2.2.2.2.2 = E1 ++ y :: E2) (ht : tot (A ++ x :: B) ≤ 200000) (r a n : Nat) (hr : mjKd r = 1) (hr2 : r ∉ tyH) (ha : a + n ≤ mjLn r) (hlr : mjLn r < 2 ^ 30) (hn : tot (A ++ x :: B) + n ≤ 300000) (ty : mjTY σ) :
    mjY mjPP (mjQQ Y) (d + 3) 18 0 (mjL0 5 [.ref 0, .int (nI y.1), .ref r, .int (nI a), .int (nI n)]) [] σ (fun q u => q = none ∧ Fr [f_heapSize] wrH σ u ∧ ∃ hs', KS u hs' (A ++ withE x (E1 ++ (y.1, wd (σ.2.2.1 r) a n, y.2.2.1, y.2.2.2) :: E2) :: B) fk fe) := by
  have y1 := ((h.2.2.2.2.1 x (List.mem_append_right _ List.mem_cons_self)).2.2.2.2.2.2.2.2.2.2 y (by rw [he]; exact List.mem_append_right _ List.mem_cons_self)).1
  refine mjY_mono ty (fun q u tu hu => ?_) (c_name_w (Y := Y) (d := d) h ht y.1 y1 r a n hr hr2 ha hlr hn ty)
  obtain ⟨e, v, hs', f, k, l, w⟩ := hu
  exact ⟨e, (f.up (fun _ q => q) (by decide)).tr (w.1.up (fun _ q => q) (by decide)), _, ks_name k he w (by rw [wd_len]; exact l)⟩
theorem c_give {σ : mjS} {hs : Nat} {A B : List KR} {x : KR} {fk fe : List Nat} {y : ER} {E1 E2 : List ER} (h : KS σ hs (A ++ x :: B) fk fe) (he : x.2.2.2.2.2.2 = E1 ++ y :: E2) (ht : tot (A ++ x :: B) ≤ 200000) (r a n : Nat) (hr : mjKd r = 1) (hr2 : r ∉ tyH) (ha : a + n ≤ mjLn r) (hlr : mjLn r < 2 ^ 30) (hn : tot (A ++ x :: B) + n ≤ 300000) (ty : mjTY σ) :
    mjY mjPP (mjQQ Y) (d + 3) 19 0 (mjL0 5 [.ref 0, .int (nI y.1), .ref r, .int (nI a), .int (nI n)]) [] σ (fun q u => q = none ∧ Fr [f_heapSize] wrH σ u ∧ ∃ hs', KS u hs' (A ++ withE x (E1 ++ (y.1, y.2.1, wd (σ.2.2.1 r) a n, y.2.2.2) :: E2) :: B) fk fe) := by
  have y1 := ((h.2.2.2.2.1 x (List.mem_append_right _ List.mem_cons_self)).2.2.2.2.2.2.2.2.2.2 y (by rw [he]; exact List.mem_append_right _ List.mem_cons_self)).1
  refine mjY_mono ty (fun q u tu hu => ?_) (c_give_w (Y := Y) (d := d) h ht y.1 y1 r a n hr hr2 ha hlr hn ty)
  obtain ⟨e, v, hs', f, k, l, w⟩ := hu
  exact ⟨e, (f.up (fun _ q => q) (by decide)).tr (w.1.up (fun _ q => q) (by decide)), _, ks_give k he w (by rw [wd_len]; exact l)⟩
end WRITE3
