/-! insert, as it runs. -/
section INSC
variable {Y : Nat → MethodName × ByteArray} {d : Nat}
theorem nI_n0 {b : Nat} (h : b < 2 ^ 30) : ¬ nI b < 0 := Int32.not_lt.mpr (nI_le (a := 0) (Nat.zero_le b) (by omega))
theorem mjIu_s {a : Nat → Nat → Int32} {h i j : Nat} {v : Int32} : mjIu a h i v h j = if j = i then v else a h j := by
  rw [mjIu_at]
  by_cases c : j = i
  · rw [if_pos ⟨rfl, c⟩, if_pos c]
  · rw [if_neg (fun q => c q.2), if_neg c]
theorem mjLu_s {a : Nat → Nat → Int64} {h i j : Nat} {v : Int64} : mjLu a h i v h j = if j = i then v else a h j := by
  rw [mjLu_at]
  by_cases c : j = i
  · rw [if_pos ⟨rfl, c⟩, if_pos c]
  · rw [if_neg (fun q => c q.2), if_neg c]
set_option maxRecDepth 100000 in
theorem c_ins_c (K : mjK) (k e : Nat) (hk : k < 4700) (he : e < 10000) (a n z : Int32) (hz : z = nI e) (σ : mjS) (ty : mjTY σ)
    (hK : ∀ u, Fr [] inH σ u → (∀ g, g ≠ r_kMany → g ≠ r_eLen → g ≠ r_vLen → u.2.2.1 g = σ.2.2.1 g) → (∀ j, u.2.2.1 r_kMany j = if j = k then σ.2.2.1 r_kMany k + 1 else σ.2.2.1 r_kMany j) → (∀ j, u.2.2.1 r_eLen j = if j = e then 0 else σ.2.2.1 r_eLen j) → (∀ j, u.2.2.1 r_vLen j = if j = e then 0 else σ.2.2.1 r_vLen j) → (∀ j, u.2.2.2 r_eScore j = if j = e then 0 else σ.2.2.2 r_eScore j) → K (some (.int (nI e))) u) :
    mjY mjPP (mjQQ Y) d 16 57 [some (.ref 0), some (.int (nI k)), some (.int a), some (.int z), some (.int n)] [] σ K := by
  subst hz
  have kc : (nI k).toNatClampNeg = k := nI_clamp (by omega)
  have ec : (nI e).toNatClampNeg = e := nI_clamp (by omega)
  have kv : vp_in (nI k) 4700 := vp_in_nI hk (by decide)
  have ev : vp_in (nI e) 10000 := vp_in_nI he (by decide)
  refine mjZ_y rfl rfl 25 _ _ _ _ ty ?_
  refine And.intro rfl (And.intro rfl (And.intro kv (And.intro rfl (And.intro kv (fun ty1 => ?_)))))
  refine And.intro rfl (And.intro rfl (And.intro ev (fun ty2 => ?_)))
  refine And.intro rfl (And.intro rfl (And.intro ev (fun ty3 => ?_)))
  refine And.intro rfl (And.intro rfl (And.intro ev (fun ty4 => ?_)))
  refine And.intro rfl (And.intro (Or.inl rfl) (hK _ ((Fr.a (by decide)).tr ((Fr.a (by decide)).tr ((Fr.a (by decide)).tr (Fr.j (by decide))))) ?_ ?_ ?_ ?_ ?_))
  · intro g g1 g2 g3
    show mjIu (mjIu (mjIu σ.2.2.1 r_kMany _ _) r_eLen _ _) r_vLen _ _ g = _
    rw [mjIu_ne g3, mjIu_ne g2, mjIu_ne g1]
  · intro j
    show mjIu (mjIu (mjIu σ.2.2.1 r_kMany (nI k).toNatClampNeg (σ.2.2.1 r_kMany (nI k).toNatClampNeg + 1)) r_eLen (nI e).toNatClampNeg 0) r_vLen (nI e).toNatClampNeg 0 r_kMany j = _
    rw [mjIu_ne (by decide), mjIu_ne (by decide), mjIu_s, kc]
  · intro j
    show mjIu (mjIu (mjIu σ.2.2.1 r_kMany (nI k).toNatClampNeg (σ.2.2.1 r_kMany (nI k).toNatClampNeg + 1)) r_eLen (nI e).toNatClampNeg 0) r_vLen (nI e).toNatClampNeg 0 r_eLen j = _
    rw [mjIu_ne (by decide), mjIu_s, ec, mjIu_ne (by decide)]
  · intro j
    show mjIu (mjIu (mjIu σ.2.2.1 r_kMany (nI k).toNatClampNeg (σ.2.2.1 r_kMany (nI k).toNatClampNeg + 1)) r_eLen (nI e).toNatClampNeg 0) r_vLen (nI e).toNatClampNeg 0 r_vLen j = _
    rw [mjIu_s, ec, mjIu_ne (by decide), mjIu_ne (by decide)]
  · intro j
    show mjLu σ.2.2.2 r_eScore (nI e).toNatClampNeg 0 r_eScore j = _
    rw [mjLu_s, ec]
set_option maxRecDepth 100000 in
theorem c_ins_b2 (K : mjK) (k e : Nat) (hk : k < 4700) (he : e < 10000) (a n z : Int32) (hz : z = nI e) (l2 : List Nat) (hn : n = hdq l2 (-1)) (hl : ∀ j ∈ l2, j < 10000) (σ : mjS) (ty : mjTY σ)
    (hK : ∀ u, mjTY u → Fr [] inH σ u → u.2.2.2 = σ.2.2.2 → (∀ g, g ≠ r_ePrev → g ≠ r_kTail → u.2.2.1 g = σ.2.2.1 g) → (∀ j, u.2.2.1 r_ePrev j = if l2.head? = some j then nI e else σ.2.2.1 r_ePrev j) → (∀ j, u.2.2.1 r_kTail j = if l2 = [] ∧ j = k then nI e else σ.2.2.1 r_kTail j) → mjY mjPP (mjQQ Y) d 16 57 [some (.ref 0), some (.int (nI k)), some (.int a), some (.int z), some (.int n)] [] u K) :
    mjY mjPP (mjQQ Y) d 16 44 [some (.ref 0), some (.int (nI k)), some (.int a), some (.int z), some (.int n)] [] σ K := by
  subst hz
  have kc : (nI k).toNatClampNeg = k := nI_clamp (by omega)
  have kv : vp_in (nI k) 4700 := vp_in_nI hk (by decide)
  refine mjZ_y rfl rfl 2 _ _ _ _ ty ?_
  cases l2 with
  | nil =>
    have hn : n = -1 := hn
    subst hn
    refine And.intro (fun _ => ?_) (fun c => absurd (show (-1 : Int32) < 0 by decide) c)
    refine mjZ_re rfl rfl 5 ty ?_
    refine And.intro rfl (And.intro rfl (And.intro kv (fun ty1 => ?_)))
    refine hK _ ty1 (Fr.a (by decide)) rfl (fun g _ g2 => mjIu_ne g2) (fun j => ?_) (fun j => ?_)
    · rw [if_neg (fun q => by cases q)]; exact congrFun (mjIu_ne (a := σ.2.2.1) (i := (nI k).toNatClampNeg) (v := nI e) (h := r_kTail) (g := r_ePrev) (by decide)) j
    · show mjIu σ.2.2.1 r_kTail (nI k).toNatClampNeg (nI e) r_kTail j = _
      rw [mjIu_s, kc]
      by_cases c : j = k
      · rw [if_pos c, if_pos ⟨rfl, c⟩]
      · rw [if_neg c, if_neg (fun q => c q.2)]
  | cons b r =>
    have hn : n = nI b := hn
    subst hn
    have hb := hl b List.mem_cons_self
    have bc : (nI b).toNatClampNeg = b := nI_clamp (by omega)
    have bv : vp_in (nI b) 10000 := vp_in_nI hb (by decide)
    refine And.intro (fun c => absurd (show nI b < 0 from c) (nI_n0 (by omega))) (fun _ => ?_)
    refine mjZ_re rfl rfl 6 ty ?_
    refine And.intro rfl (And.intro rfl (And.intro bv (fun ty1 => ?_)))
    refine hK _ ty1 (Fr.a (by decide)) rfl (fun g g1 _ => mjIu_ne g1) (fun j => ?_) (fun j => ?_)
    · show mjIu σ.2.2.1 r_ePrev (nI b).toNatClampNeg (nI e) r_ePrev j = _
      rw [mjIu_s, bc, show (b :: r).head? = some b from rfl]
      by_cases c : j = b
      · rw [if_pos c, if_pos (by rw [c])]
      · rw [if_neg c, if_neg (fun q => c (Option.some.inj q).symm)]
    · rw [if_neg (fun q => by cases q.1)]; exact congrFun (mjIu_ne (a := σ.2.2.1) (i := (nI b).toNatClampNeg) (v := nI e) (h := r_ePrev) (g := r_kTail) (by decide)) j
set_option maxRecDepth 100000 in
theorem c_ins_b1 (K : mjK) (k e : Nat) (hk : k < 4700) (he : e < 10000) (a n z : Int32) (hz : z = nI e) (l1 : List Nat) (ha : (l1 = [] ∧ a = -1) ∨ ∃ b, l1.getLast? = some b ∧ b < 10000 ∧ a = nI b) (σ : mjS) (ty : mjTY σ)
    (hK : ∀ u, mjTY u → Fr [] inH σ u → u.2.2.2 = σ.2.2.2 → (∀ g, g ≠ r_eNext → g ≠ r_kHead → u.2.2.1 g = σ.2.2.1 g) → (∀ j, u.2.2.1 r_eNext j = if l1.getLast? = some j then nI e else σ.2.2.1 r_eNext j) → (∀ j, u.2.2.1 r_kHead j = if l1 = [] ∧ j = k then nI e else σ.2.2.1 r_kHead j) → mjY mjPP (mjQQ Y) d 16 44 [some (.ref 0), some (.int (nI k)), some (.int a), some (.int z), some (.int n)] [] u K) :
    mjY mjPP (mjQQ Y) d 16 31 [some (.ref 0), some (.int (nI k)), some (.int a), some (.int z), some (.int n)] [] σ K := by
  subst hz
  have kc : (nI k).toNatClampNeg = k := nI_clamp (by omega)
  have kv : vp_in (nI k) 4700 := vp_in_nI hk (by decide)
  refine mjZ_y rfl rfl 2 _ _ _ _ ty ?_
  rcases ha with ⟨rfl, rfl⟩ | ⟨b, hl, hb, rfl⟩
  · refine And.intro (fun _ => ?_) (fun c => absurd (show (-1 : Int32) < 0 by decide) c)
    refine mjZ_re rfl rfl 5 ty ?_
    refine And.intro rfl (And.intro rfl (And.intro kv (fun ty1 => ?_)))
    refine hK _ ty1 (Fr.a (by decide)) rfl (fun g _ g2 => mjIu_ne g2) (fun j => ?_) (fun j => ?_)
    · rw [if_neg (fun q => by cases q)]; exact congrFun (mjIu_ne (a := σ.2.2.1) (i := (nI k).toNatClampNeg) (v := nI e) (h := r_kHead) (g := r_eNext) (by decide)) j
    · show mjIu σ.2.2.1 r_kHead (nI k).toNatClampNeg (nI e) r_kHead j = _
      rw [mjIu_s, kc]
      by_cases c : j = k
      · rw [if_pos c, if_pos ⟨rfl, c⟩]
      · rw [if_neg c, if_neg (fun q => c q.2)]
  · have bc : (nI b).toNatClampNeg = b := nI_clamp (by omega)
    have bv : vp_in (nI b) 10000 := vp_in_nI hb (by decide)
    refine And.intro (fun c => absurd (show nI b < 0 from c) (nI_n0 (by omega))) (fun _ => ?_)
    refine mjZ_re rfl rfl 6 ty ?_
    refine And.intro rfl (And.intro rfl (And.intro bv (fun ty1 => ?_)))
    refine hK _ ty1 (Fr.a (by decide)) rfl (fun g g1 _ => mjIu_ne g1) (fun j => ?_) (fun j => ?_)
    · show mjIu σ.2.2.1 r_eNext (nI b).toNatClampNeg (nI e) r_eNext j = _
      rw [mjIu_s, bc, hl]
      by_cases c : j = b
      · rw [if_pos c, if_pos (by rw [c])]
      · rw [if_neg c, if_neg (fun q => c (Option.some.inj q).symm)]
    · rw [if_neg (fun q => by rw [q.1] at hl; cases hl)]; exact congrFun (mjIu_ne (a := σ.2.2.1) (i := (nI b).toNatClampNeg) (v := nI e) (h := r_eNext) (g := r_kHead) (by decide)) j
end INSC
