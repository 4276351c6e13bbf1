/-! stop, sync, does. -/
section SYNC
variable {Y : Nat → MethodName × ByteArray} {d : Nat}
abbrev stpF : List Nat := f_up :: f_pendingSize :: kF
abbrev stpH : List Nat := r_outSize :: c2H ++ kH
set_option maxRecDepth 100000 in
theorem c_stop_c (K : mjK) {ws : Req} {ks : List KR} {l : List Int32} {qe we ce : Nat} : ∀ (j c : Nat) (σ : mjS) (x1 : Int32) (I : Nat → Nat) (G : Nat → List Req), x1 = nI c → c + j = 4 → mjTY σ → Wd σ ws ks l → CX σ qe we ce I G → (∀ k, k < c → I k = 0) →
    (∀ u x1 I' G', mjTY u → Fr [] (r_outSize :: c2H) σ u → Wd u ws ks l → CX u qe we ce I' G' → CL I I' G G' → (∀ k, k < 4 → I' k = 0) → mjY mjPP (mjQQ Y) (d + 3) 51 18 [some (.ref 0), some (.int x1)] [] u K) →
    mjY mjPP (mjQQ Y) (d + 3) 51 5 [some (.ref 0), some (.int x1)] [] σ K := by
  intro j
  induction j with
  | zero =>
    intro c σ x1 I G e1 hc ty hW hX hz hK
    refine mjZ_y rfl rfl 3 _ _ _ _ ty ?_
    refine And.intro (fun q => ?_) (fun q => ?_)
    · exact hK σ _ I G ty Fr.rf hW hX CL.rf (fun k hk => hz k (by omega))
    · exact absurd (show Int32.ofInt 4 ≤ x1 by rw [e1]; exact nI_le (a := 4) (by omega) (by omega)) q
  | succ j ih =>
    intro c σ x1 I G e1 hc ty hW hX hz hK
    have v1 : vp_in x1 4 := by rw [e1]; exact vp_in_nI (by omega) (by decide)
    have c1 : x1.toNatClampNeg = c := by rw [e1]; exact nI_clamp (by omega)
    refine mjZ_y rfl rfl 3 _ _ _ _ ty ?_
    refine And.intro (fun q => ?_) (fun q => ?_)
    · exact absurd (show Int32.ofInt 4 ≤ x1 from q) (by rw [e1]; exact nI_ge (b := 4) (by omega) (by omega))
    refine mjZ_y rfl rfl 3 _ _ _ _ ty ?_
    refine (And.intro (Nat.le_of_ble_eq_true rfl) (And.intro rfl (And.intro (Nat.le_of_ble_eq_true rfl) (And.intro (Nat.le_of_ble_eq_true rfl) (mjY_mono ty (fun q_ u1 ty1 h_ => ?_) (x_close ty (c := c) (by omega) e1))))))
    obtain ⟨rfl, eu1⟩ := h_
    intro _
    have f1 : Fr [] c2H σ u1 := by rw [eu1]; exact zrS_fr _ _ _
    have h1 : Wd u1 ws ks l := by rw [eu1]; exact hW.wt (zrS_fr σ c2H c) (WT_z hW.2.2.2.2 _ _ (by decide) (by decide)) (by decide) (by decide)
    have x1' : CX u1 qe we ce (I0 I c) (G0 G c) := by rw [eu1]; exact CX_z hX c
    refine mjZ_y rfl rfl 7 _ _ _ _ ty1 ?_
    refine (And.intro rfl (And.intro rfl (And.intro v1 (fun ty1' => ?_))))
    have go : ∀ u : mjS, mjTY u → u = (u1.1, u1.2.1, mjIu u1.2.2.1 r_outSize c 0, u1.2.2.2) → mjY mjPP (mjQQ Y) (d + 3) 51 5 [some (.ref 0), some (.int (x1 + Int32.ofInt 1))] [] u K := by
      intro u tu eu
      have fu : Fr [] [r_outSize] u1 u := by rw [eu]; exact Fr.a (by decide)
      have hu : Wd u ws ks l := h1.fr fu (by decide) (by decide)
      have xu : CX u qe we ce (I0 I c) (G0 G c) := by
        refine x1'.mk (fun k _ => fu.1 k (by simp)) (fun g hg => (fu.2.2 g ((by decide : ∀ g ∈ [r_queuedAt, r_queue, r_channelAt, r_channelLen], g ∉ [r_outSize]) g hg)).1) (fun k hk => ?_)
        obtain ⟨a1, ⟨m, hm, em⟩, -⟩ := x1'.1 k hk
        refine ⟨by rw [(fu.2.2 r_inSize (by decide)).1, (fu.2.2 r_opened (by decide)).1]; exact a1, ?_, Or.inl ⟨rfl, by rw [(fu.2.2 _ (by decide)).1]⟩, Or.inl (by rw [(fu.2.2 _ (by decide)).1])⟩
        by_cases z : k = c
        · exact ⟨0, Nat.zero_le _, by rw [eu]; show mjIu u1.2.2.1 r_outSize c 0 r_outSize k = _; rw [mjIu_s, if_pos z]; rfl⟩
        · exact ⟨m, hm, by rw [eu]; show mjIu u1.2.2.1 r_outSize c 0 r_outSize k = _; rw [mjIu_s, if_neg z]; exact em⟩
      exact ih (c + 1) u _ _ _ (by rw [e1]; exact nI_1 c) (by omega) tu hu xu (fun k hk => by
        unfold I0
        by_cases y : k = c
        · rw [if_pos y]
        · rw [if_neg y]; exact hz k (by omega)) (fun v x1 I' G' tv fv hv xv lv zv => hK v x1 I' G' tv (((f1.up (by decide) (by decide)).tr (fu.up (by decide) (by decide))).tr fv) hv xv ((CL.z I G c).tr lv) zv)
    refine go _ ty1' ?_
    rw [c1]; rfl
theorem snoc_of {α : Type} {l : List α} (h : l ≠ []) : ∃ P x, l = P ++ [x] := ⟨l.dropLast, l.getLast h, (List.dropLast_concat_getLast h).symm⟩
set_option maxRecDepth 100000 in
theorem c_stop_k (K : mjK) {ws : Req} {l : List Int32} (x1 : Int32) : ∀ (n : Nat) (σ : mjS) (ks : List KR), ks.length = n → mjTY σ → Wd σ ws ks l → (∀ u, mjTY u → Fr kF kH σ u → Wd u ws [] l → mjY mjPP (mjQQ Y) (d + 3) 51 31 [some (.ref 0), some (.int x1)] [] u K) →
    mjY mjPP (mjQQ Y) (d + 3) 51 18 [some (.ref 0), some (.int x1)] [] σ K := by
  intro n
  induction n with
  | zero =>
    intro σ ks hn ty hW hK
    have e0 : ks = [] := List.length_eq_zero_iff.mp hn
    subst e0
    obtain ⟨hs, fk, fe, k⟩ := hW.1
    refine mjZ_y rfl rfl 3 _ _ _ _ ty ?_
    refine (And.intro rfl (And.intro (fun q => ?_) (fun q => ?_)))
    · exact hK σ ty Fr.rf hW
    · exact absurd (show σ.1 f_keys ≤ 0 by rw [k.2.2.1]; exact Int32.le_refl _) q
  | succ n ih =>
    intro σ ks hn ty hW hK
    obtain ⟨P, x, rfl⟩ := snoc_of (l := ks) (fun z => by rw [z] at hn; cases hn)
    obtain ⟨hs, fk, fe, k⟩ := hW.1
    have hl := ks_len k
    have ek : σ.1 f_keys = nI (P.length + 1) := by rw [k.2.2.1, List.length_append]; rfl
    have e1 : σ.1 f_keys - Int32.ofInt 1 = nI P.length := by rw [ek, show Int32.ofInt 1 = nI 1 from rfl, pk_sub (by omega)]; exact congrArg nI (by omega)
    have hPl : P.length + 1 ≤ 4700 := by rw [List.length_append] at hl; simp only [List.length_cons, List.length_nil] at hl; omega
    have eo : σ.2.2.1 r_order (σ.1 f_keys - Int32.ofInt 1).toNatClampNeg = nI x.1 := by
      rw [e1, nI_clamp (by omega)]
      exact k.2.2.2.1 P.length x (by rw [List.getElem?_append_right (Nat.le_refl _), Nat.sub_self]; rfl)
    refine mjZ_y rfl rfl 3 _ _ _ _ ty ?_
    refine (And.intro rfl (And.intro (fun q => ?_) (fun q => ?_)))
    · exact absurd (show σ.1 f_keys ≤ 0 from q) (by rw [ek]; exact nI_ge (b := P.length + 1) (a := 0) (by omega) (by omega))
    refine mjZ_y rfl rfl 9 _ _ _ _ ty ?_
    refine (And.intro rfl (And.intro rfl (And.intro rfl (And.intro (show vp_in (σ.1 f_keys - Int32.ofInt 1) 4700 by rw [e1]; exact vp_in_nI (by omega) (by decide)) (And.intro (Nat.le_of_ble_eq_true rfl) (And.intro rfl (And.intro (Nat.le_of_ble_eq_true rfl) (And.intro (Nat.le_of_ble_eq_true rfl) (mjY_mono ty (fun q_ u1 ty1 h_ => ?_) (w_drop hW ty eo))))))))))
    obtain ⟨rfl, h1, f1⟩ := h_
    intro _
    refine mjZ_y rfl rfl 1 _ _ _ _ ty1 ?_
    rw [List.append_nil] at h1
    refine ih u1 P (by rw [List.length_append] at hn; simpa using hn) ty1 h1 (fun u tu fu hu => hK u tu (f1.tr fu) hu)
set_option maxRecDepth 100000 in
theorem c_stop {σ : mjS} {ws : Req} {ks : List KR} {l : List Int32} (hW : Wd σ ws ks l) (ty : mjTY σ) {qe we ce : Nat} {I : Nat → Nat} {G : Nat → List Req} (hX : CX σ qe we ce I G) : mjY mjPP (mjQQ Y) (d + 3) 51 0 (mjL0 2 [.ref 0]) [] σ (fun r u => r = none ∧ Fr stpF stpH σ u ∧ u.1 f_up = 0 ∧ Wd u ws [] [] ∧ ∃ I' G', CX u qe we ce I' G' ∧ CL I I' G G' ∧ ∀ k, k < 4 → I' k = 0) := by
  refine mjZ_y rfl rfl 5 _ _ _ _ ty ?_
  refine (And.intro rfl (And.intro (Or.inr ⟨rfl, Or.inl rfl⟩) (fun ty' => (And.intro (Nat.le_of_ble_eq_true rfl) ?_))))
  have go : ∀ u : mjS, mjTY u → u = (upd σ.1 f_up 0, σ.2) → mjY mjPP (mjQQ Y) (d + 3) 51 5 [some (.ref 0), some (.int (Int32.ofInt 0))] [] u (fun r u => r = none ∧ Fr stpF stpH σ u ∧ u.1 f_up = 0 ∧ Wd u ws [] [] ∧ ∃ I' G', CX u qe we ce I' G' ∧ CL I I' G G' ∧ ∀ k, k < 4 → I' k = 0) := by
    intro u tu eu
    have fu : Fr [f_up] [] σ u := by rw [eu]; exact Fr.i (by decide)
    have e0 : u.1 f_up = 0 := by rw [eu]; exact pk_us (f := σ.1) (k := f_up) (x := 0)
    refine c_stop_c _ 4 0 u _ I G rfl rfl tu (hW.fr fu (by decide) (by decide)) (hX.fr fu (by decide) (by decide)) (fun k hk => absurd hk (Nat.not_lt_zero k)) (fun v x1 I' G' tv fv hv xv lv zv => ?_)
    refine c_stop_k _ x1 ks.length v ks rfl tv hv (fun w tw fw hw => ?_)
    refine mjZ_y rfl rfl 7 _ _ _ _ tw ?_
    refine (And.intro rfl (And.intro (Or.inl rfl) (fun tw' => (And.intro rfl (And.intro (Or.inl rfl) (fun tw'' => And.intro rfl (And.intro rfl ?_)))))))
    have fa : Fr stpF stpH σ w := ((fu.up (by decide) (by decide)).tr (fv.up (by decide) (by decide))).tr (fw.up (by decide) (by decide))
    have fin : ∀ z : mjS, Fr [f_heapSize, f_pendingSize] [] w z → z.1 f_heapSize = nI 0 → z.1 f_pendingSize = nI 0 → Fr stpF stpH σ z ∧ z.1 f_up = 0 ∧ Wd z ws [] [] ∧ ∃ I' G', CX z qe we ce I' G' ∧ CL I I' G G' ∧ ∀ k, k < 4 → I' k = 0 := by
      intro z fz z1 z2
      refine ⟨fa.tr (fz.up (by decide) (by decide)), ?_, ?_, I', G', ((xv.fr fw (by decide) (by decide)).fr fz (by decide) (by decide)), lv, zv⟩
      · rw [fz.1 _ (by decide), fw.1 _ (by decide), fv.1 _ (by decide)]; exact e0
      · obtain ⟨⟨hs, fk, fe, k⟩, a, -, o, t⟩ := hw
        refine ⟨⟨0, fk, fe, ?_⟩, a.fr fz (by decide) (by decide) (by decide) (by decide), ⟨z2, Nat.zero_le _, rfl⟩, o.fr fz (by decide), t.fr fz (by decide) (by decide) (by decide)⟩
        obtain ⟨a1, a2, a3, a4, a5, a6, a7, a8, a9, a10, a11, a12, a13, a14, a15, a16, a17⟩ := k
        have er : ∀ g, z.2.2.1 g = w.2.2.1 g := fun g => (fz.2.2 g (by simp)).1
        refine ⟨z1, Nat.zero_le _, by rw [fz.1 _ (by decide)]; exact a3, fun i x hx => (by simp at hx), fun x hx => (by cases hx), by rw [fz.1 _ (by decide)]; exact a6, by rw [er]; exact a7, a8, a9, a10, a11, a12, a13, by rw [fz.1 _ (by decide)]; exact a14, FSEG.fr a15 (fun e _ => by rw [er]), fun e he => ?_, fun e he => ?_⟩
        · obtain ⟨⟨p, p1, p2⟩, q, q1, q2⟩ := a16 e he
          exact ⟨⟨p, p1, by rw [er]; exact p2⟩, q, q1, by rw [er]; exact q2⟩
        · obtain ⟨⟨p, p1, p2⟩, q, q1, q2⟩ := a17 e he
          exact ⟨⟨p, p1, by rw [er]; exact p2⟩, q, q1, by rw [er]; exact q2⟩
    refine ⟨rfl, fin _ ((Fr.i (k := f_heapSize) (by decide)).tr (Fr.i (k := f_pendingSize) (by decide))) ?_ ?_⟩
    · show upd (upd w.1 f_heapSize 0) f_pendingSize 0 f_heapSize = _
      rw [pk_un (by decide)]; exact pk_us (f := w.1) (k := f_heapSize) (x := 0)
    · exact pk_us (f := upd w.1 f_heapSize 0) (k := f_pendingSize) (x := 0)
  exact go _ ty' rfl
/-- the log's bytes -/
def DKs (σ : mjS) (D : List Int32) : Prop := σ.1 f_diskSize = nI D.length ∧ D.length ≤ 700000 ∧ wd (σ.2.2.1 r_disk) 0 D.length = D
theorem DKs.fr {σ u : mjS} {fs hs : List Nat} {D : List Int32} (h : DKs σ D) (f : Fr fs hs σ u) (h1 : f_diskSize ∉ fs) (h2 : r_disk ∉ hs) : DKs u D := ⟨by rw [f.1 _ h1]; exact h.1, h.2.1, by rw [(f.2.2 _ h2).1]; exact h.2.2⟩
/-- how many bytes the log still takes -/
def BU (σ : mjS) : Prop := σ.1 f_burning = -1 ∨ ∃ b : Nat, b < 2 ^ 31 ∧ σ.1 f_burning = nI b
set_option maxRecDepth 100000 in
theorem c_sync_loop (K : mjK) {D n : Nat} (hn : D + n ≤ 700000) (hn2 : n ≤ 420000) (x1 x2 : Int32) (e1 : x1 = nI n) (S R0 : Nat → Int32) : ∀ (j k : Nat) (σ : mjS) (x3 : Int32), x3 = nI k → k + j = n → mjTY σ → σ.1 f_diskSize = nI D → σ.2.2.1 r_pending = S → σ.2.2.1 r_disk = va_cpy S R0 0 D k → (∀ u x3, mjTY u → Fr [] [r_disk] σ u → u.2.2.1 r_disk = va_cpy S R0 0 D n → mjY mjPP (mjQQ Y) d 52 37 [some (.ref 0), some (.int x1), some (.int x2), some (.int x3)] [] u K) →
    mjY mjPP (mjQQ Y) d 52 21 [some (.ref 0), some (.int x1), some (.int x2), some (.int x3)] [] σ K := by
  intro j
  induction j with
  | zero =>
    intro k σ x3 e3 hk ty eD eS eR hK
    have ek : k = n := by omega
    subst ek
    refine mjZ_y rfl rfl 3 _ _ _ _ ty ?_
    refine And.intro (fun q => ?_) (fun q => ?_)
    · exact hK σ _ ty Fr.rf eR
    · exact absurd (show x1 ≤ x3 by rw [e1, e3]; exact nI_le (by omega) (by omega)) q
  | succ j ih =>
    intro k σ x3 e3 hk ty eD eS eR hK
    refine mjZ_y rfl rfl 3 _ _ _ _ ty ?_
    refine And.intro (fun q => ?_) (fun q => ?_)
    · exact absurd (show x1 ≤ x3 from q) (by rw [e1, e3]; exact nI_ge (by omega) (by omega))
    have i1 : σ.1 f_diskSize + x3 = nI (D + k) := by rw [eD, e3, nI_add]
    refine mjZ_y rfl rfl 13 _ _ _ _ ty ?_
    refine (And.intro rfl (And.intro rfl (And.intro rfl (And.intro (Or.inl rfl) (And.intro (show vp_in x3 420000 by rw [e3]; exact vp_in_nI (by omega) (by decide)) (And.intro (Or.inl ⟨rfl, ty.2.1 52 _ rfl⟩) (And.intro (show vp_in (σ.1 f_diskSize + x3) 700000 by rw [i1]; exact vp_in_nI (by omega) (by decide)) (fun ty' => ?_))))))))
    refine ih (k + 1) _ _ (by rw [e3]; exact nI_1 k) (by omega) ty' eD eS ?_ (fun u x3 tu fu eu => hK u x3 tu ((Fr.a (by decide)).tr fu) eu)
    show mjIu σ.2.2.1 r_disk (σ.1 f_diskSize + x3).toNatClampNeg (σ.2.2.1 r_pending x3.toNatClampNeg) r_disk = _
    rw [mjIu_self, i1, e3, nI_clamp (by omega), nI_clamp (by omega), eS, eR]
    have := cpy_s (f := S) (g := R0) (sp := 0) (dp := D) (k := k)
    rw [Nat.zero_add] at this
    exact this
theorem DKs_cpy {σ u : mjS} {D l : List Int32} {n : Nat} (h : DKs σ D) (hp : wd (σ.2.2.1 r_pending) 0 l.length = l) (hn : n ≤ l.length) (hb : D.length + n ≤ 700000) (e1 : u.1 f_diskSize = nI (D.length + n)) (e2 : u.2.2.1 r_disk = va_cpy (σ.2.2.1 r_pending) (σ.2.2.1 r_disk) 0 D.length n) : DKs u (D ++ l.take n) := by
  have hl : (D ++ l.take n).length = D.length + n := by rw [List.length_append, List.length_take, Nat.min_eq_left hn]
  refine ⟨by rw [hl]; exact e1, by rw [hl]; exact hb, ?_⟩
  rw [hl, e2, wd_app]
  have a : wd (va_cpy (σ.2.2.1 r_pending) (σ.2.2.1 r_disk) 0 D.length n) 0 D.length = D := (wd_congr (fun k hk => cpy_lo (by omega))).trans h.2.2
  have b : wd (va_cpy (σ.2.2.1 r_pending) (σ.2.2.1 r_disk) 0 D.length n) (0 + D.length) n = l.take n := by
    rw [Nat.zero_add, cpy_wd]; exact (wd_take hp hn).symm
  rw [a, b]
abbrev syF : List Nat := f_diskSize :: f_burning :: stpF
abbrev syH : List Nat := r_disk :: stpH
set_option maxRecDepth 100000 in
theorem c_sync {σ : mjS} {ws : Req} {ks : List KR} {l : List Int32} (hW : Wd σ ws ks l) (ty : mjTY σ) {qe we ce : Nat} {I : Nat → Nat} {G : Nat → List Req} (hX : CX σ qe we ce I G) {D : List Int32} (hD : DKs σ D) (hb : BU σ) (hl : D.length + l.length ≤ 700000) : mjY mjPP (mjQQ Y) (d + 4) 52 0 (mjL0 4 [.ref 0]) [] σ (fun r u => Fr syF syH σ u ∧ BU u ∧ ((r = some (.int 1) ∧ u.1 f_up = σ.1 f_up ∧ Wd u ws ks [] ∧ DKs u (D ++ l) ∧ CX u qe we ce I G) ∨ (r = some (.int 0) ∧ u.1 f_up = 0 ∧ Wd u ws [] [] ∧ (∃ n, DKs u (D ++ l.take n)) ∧ ∃ I' G', CX u qe we ce I' G' ∧ CL I I' G G' ∧ ∀ k, k < 4 → I' k = 0))) := by
  obtain ⟨p1, p2, p3⟩ := hW.2.2.1
  have s19 : ∀ (n : Nat) (x2 : Int32), n ≤ l.length → (x2 = 0 ∧ n = l.length ∧ (σ.1 f_burning = -1 ∨ ∃ b : Nat, b < 2 ^ 31 ∧ n ≤ b ∧ σ.1 f_burning = nI b) ∨ (x2 = 1 ∧ σ.1 f_burning = nI n)) → mjY mjPP (mjQQ Y) (d + 4) 52 19 [some (.ref 0), some (.int (nI n)), some (.int x2), none] [] σ (fun r u => Fr syF syH σ u ∧ BU u ∧ ((r = some (.int 1) ∧ u.1 f_up = σ.1 f_up ∧ Wd u ws ks [] ∧ DKs u (D ++ l) ∧ CX u qe we ce I G) ∨ (r = some (.int 0) ∧ u.1 f_up = 0 ∧ Wd u ws [] [] ∧ (∃ n, DKs u (D ++ l.take n)) ∧ ∃ I' G', CX u qe we ce I' G' ∧ CL I I' G G' ∧ ∀ k, k < 4 → I' k = 0))) := by
    intro n x2 hn hx
    refine mjZ_y rfl rfl 2 _ _ _ _ ty ?_
    refine (And.intro (Nat.le_of_ble_eq_true rfl) ?_)
    refine c_sync_loop _ (D := D.length) (n := n) (by omega) (by omega) _ x2 rfl (σ.2.2.1 r_pending) (σ.2.2.1 r_disk) n 0 σ _ rfl (by omega) ty hD.1 rfl cpy_0.symm (fun u x3 tu fu eu => ?_)
    have ed : u.1 f_diskSize + nI n = nI (D.length + n) := by rw [fu.1 _ (by decide), hD.1, nI_add]
    refine mjZ_y rfl rfl 9 _ _ _ _ tu ?_
    refine (And.intro rfl (And.intro rfl (And.intro (Or.inl rfl) (fun tu' => (And.intro rfl (And.intro (Or.inl rfl) (fun tu'' => ?_)))))))
    have go : ∀ v : mjS, mjTY v → v = (upd (upd u.1 f_diskSize (nI (D.length + n))) f_pendingSize 0, u.2) → mjY mjPP (mjQQ Y) (d + 4) 52 46 [some (.ref 0), some (.int (nI n)), some (.int x2), some (.int x3)] [] v (fun r u => Fr syF syH σ u ∧ BU u ∧ ((r = some (.int 1) ∧ u.1 f_up = σ.1 f_up ∧ Wd u ws ks [] ∧ DKs u (D ++ l) ∧ CX u qe we ce I G) ∨ (r = some (.int 0) ∧ u.1 f_up = 0 ∧ Wd u ws [] [] ∧ (∃ n, DKs u (D ++ l.take n)) ∧ ∃ I' G', CX u qe we ce I' G' ∧ CL I I' G G' ∧ ∀ k, k < 4 → I' k = 0))) := by
      intro v tv ev
      have fv : Fr [f_diskSize, f_pendingSize] [] u v := by rw [ev]; exact (Fr.i (by decide)).tr (Fr.i (by decide))
      have fa : Fr [f_diskSize, f_pendingSize] [r_disk] σ v := (fu.up (by decide) (by decide)).tr (fv.up (by decide) (by decide))
      have e1 : v.1 f_diskSize = nI (D.length + n) := by
        rw [ev]; show upd (upd u.1 f_diskSize (nI (D.length + n))) f_pendingSize 0 f_diskSize = _
        rw [pk_un (by decide)]; exact pk_us (f := u.1) (k := f_diskSize) (x := nI (D.length + n))
      have e2 : v.1 f_pendingSize = nI 0 := by rw [ev]; exact pk_us (f := upd u.1 f_diskSize (nI (D.length + n))) (k := f_pendingSize) (x := 0)
      have hDv : DKs v (D ++ l.take n) := DKs_cpy hD p3 hn (by omega) e1 (by rw [(fv.2.2 _ (by decide)).1]; exact eu)
      have hWv : Wd v ws ks [] := by
        obtain ⟨⟨hs, fk, fe, k⟩, a, -, o, t⟩ := hW
        exact ⟨⟨hs, fk, fe, k.fr fa (by decide) (by decide)⟩, a.fr fa (by decide) (by decide) (by decide) (by decide), ⟨e2, Nat.zero_le _, rfl⟩, o.fr fa (by decide), t.fr fa (by decide) (by decide) (by decide)⟩
      have hXv := hX.fr fa (by decide) (by decide)
      have s55 : ∀ w : mjS, mjTY w → Fr [f_burning] [] v w → BU w → mjY mjPP (mjQQ Y) (d + 4) 52 55 [some (.ref 0), some (.int (nI n)), some (.int x2), some (.int x3)] [] w (fun r u => Fr syF syH σ u ∧ BU u ∧ ((r = some (.int 1) ∧ u.1 f_up = σ.1 f_up ∧ Wd u ws ks [] ∧ DKs u (D ++ l) ∧ CX u qe we ce I G) ∨ (r = some (.int 0) ∧ u.1 f_up = 0 ∧ Wd u ws [] [] ∧ (∃ n, DKs u (D ++ l.take n)) ∧ ∃ I' G', CX u qe we ce I' G' ∧ CL I I' G G' ∧ ∀ k, k < 4 → I' k = 0))) := by
        intro w tw fw bw
        have fsw : Fr syF syH σ w := (fa.up (by decide) (by decide)).tr (fw.up (by decide) (by decide))
        rcases hx with ⟨rfl, en, -⟩ | ⟨rfl, -⟩
        · refine mjZ_y rfl rfl 2 _ _ _ _ tw ?_
          refine And.intro (fun q => ?_) (fun q => ?_)
          · refine mjZ_y rfl rfl 2 _ _ _ _ tw ?_
            refine And.intro (fun r => ?_) (fun r => ?_)
            · exact absurd rfl r
            · refine mjZ_y rfl rfl 3 _ _ _ _ tw ?_
              refine And.intro rfl (And.intro (Or.inr ⟨rfl, Or.inr rfl⟩) ?_)
              refine ⟨fsw, bw, Or.inl ⟨rfl, by rw [fw.1 _ (by decide), fa.1 _ (by decide)], hWv.fr fw (by decide) (by decide), ?_, hXv.fr fw (by decide) (by decide)⟩⟩
              have := hDv.fr fw (by decide) (by decide)
              rw [en, List.take_length] at this; exact this
          · exact absurd rfl q
        · refine mjZ_y rfl rfl 2 _ _ _ _ tw ?_
          refine And.intro (fun q => ?_) (fun q => ?_)
          · exact absurd (show (1 : Int32) = 0 from q) (by decide)
          · refine mjZ_y rfl rfl 2 _ _ _ _ tw ?_
            refine (And.intro (Nat.le_of_ble_eq_true rfl) (And.intro rfl (And.intro (Nat.le_of_ble_eq_true rfl) (And.intro (Nat.le_of_ble_eq_true rfl) (mjY_mono tw (fun q_ u9 ty9 h_ => ?_) (c_stop (hWv.fr fw (by decide) (by decide)) tw (hXv.fr fw (by decide) (by decide))))))))
            obtain ⟨rfl, f9, e9, h9, I', G', x9, l9⟩ := h_
            intro _
            refine mjZ_y rfl rfl 2 _ _ _ _ ty9 ?_
            refine And.intro (fun r => ?_) (fun r => ?_)
            · refine mjZ_y rfl rfl 2 _ _ _ _ ty9 ?_
              refine And.intro rfl (And.intro (Or.inr ⟨rfl, Or.inl rfl⟩) ?_)
              have b9 : BU u9 := by unfold BU; rw [f9.1 _ (by decide)]; exact bw
              exact ⟨fsw.tr (f9.up (by decide) (by decide)), b9, Or.inr ⟨rfl, e9, h9, ⟨n, (hDv.fr fw (by decide) (by decide)).fr f9 (by decide) (by decide)⟩, I', G', x9, l9⟩⟩
            · exact absurd (show ¬ (1 : Int32) = 0 by decide) r
      have eb : v.1 f_burning = σ.1 f_burning := fa.1 _ (by decide)
      refine mjZ_y rfl rfl 3 _ _ _ _ tv ?_
      refine (And.intro rfl (And.intro (fun q => ?_) (fun q => ?_)))
      · exact s55 v tv Fr.rf (by unfold BU; rw [eb]; exact hb)
      · have hnb : ∃ b : Nat, b < 2 ^ 31 ∧ n ≤ b ∧ σ.1 f_burning = nI b := by
          rcases hx with ⟨-, -, hx | hx⟩ | ⟨-, hx⟩
          · exact absurd (show v.1 f_burning < 0 by rw [eb, hx]; decide) q
          · exact hx
          · exact ⟨n, by omega, Nat.le_refl _, hx⟩
        obtain ⟨b, hb1, hb2, hb3⟩ := hnb
        refine mjZ_y rfl rfl 6 _ _ _ _ tv ?_
        refine (And.intro rfl (And.intro rfl (And.intro (Or.inl rfl) (fun tv' => ?_))))
        refine s55 _ tv' (Fr.i (by decide)) (Or.inr ⟨b - n, by omega, ?_⟩)
        show upd v.1 f_burning (v.1 f_burning - nI n) f_burning = _
        rw [pk_us (f := v.1) (k := f_burning) (x := v.1 f_burning - nI n), eb, hb3, pk_sub (by omega)]
    refine go _ tu'' ?_
    rw [← ed]
    rfl
  have n0 : ∀ b : Nat, b < 2 ^ 31 → ¬ nI b < 0 := fun b hb => nI_pos hb
  have lt : ∀ b : Nat, b < 2 ^ 31 → ((nI l.length ≤ nI b) ↔ l.length ≤ b) := fun b hb => ⟨fun z => Nat.le_of_not_lt (fun y => absurd z (nI_ge y (by omega))), fun z => nI_le z hb⟩
  have s12 : (σ.1 f_burning = -1 ∨ ∃ b : Nat, b < 2 ^ 31 ∧ l.length ≤ b ∧ σ.1 f_burning = nI b) → mjY mjPP (mjQQ Y) (d + 4) 52 12 [some (.ref 0), some (.int (σ.1 f_pendingSize)), none, none] [] σ (fun r u => Fr syF syH σ u ∧ BU u ∧ ((r = some (.int 1) ∧ u.1 f_up = σ.1 f_up ∧ Wd u ws ks [] ∧ DKs u (D ++ l) ∧ CX u qe we ce I G) ∨ (r = some (.int 0) ∧ u.1 f_up = 0 ∧ Wd u ws [] [] ∧ (∃ n, DKs u (D ++ l.take n)) ∧ ∃ I' G', CX u qe we ce I' G' ∧ CL I I' G G' ∧ ∀ k, k < 4 → I' k = 0))) := by
    intro hq
    refine mjZ_y rfl rfl 3 _ _ _ _ ty ?_
    refine (And.intro (Nat.le_of_ble_eq_true rfl) ?_)
    refine mjZ_y rfl rfl 1 _ _ _ _ ty ?_
    refine And.intro (fun q => ?_) (fun q => ?_)
    · rw [p1]; exact s19 l.length 0 (Nat.le_refl _) (Or.inl ⟨rfl, rfl, hq⟩)
    · exact absurd rfl q
  refine mjZ_y rfl rfl 6 _ _ _ _ ty ?_
  refine (And.intro rfl (And.intro (Nat.le_of_ble_eq_true rfl) (And.intro rfl (And.intro (fun q => ?_) (fun q => ?_)))))
  · rcases hb with hb | ⟨b, hb1, hb2⟩
    · exact s12 (Or.inl hb)
    · exact absurd (show σ.1 f_burning < 0 from q) (by rw [hb2]; exact n0 b hb1)
  · rcases hb with hb | ⟨b, hb1, hb2⟩
    · exact absurd (show σ.1 f_burning < 0 by rw [hb]; decide) q
    · refine mjZ_y rfl rfl 4 _ _ _ _ ty ?_
      refine (And.intro rfl (And.intro (fun r => ?_) (fun r => ?_)))
      · have r : σ.1 f_pendingSize ≤ σ.1 f_burning := r
        rw [p1, hb2] at r
        exact s12 (Or.inr ⟨b, hb1, (lt b hb1).mp r, hb2⟩)
      · have r : ¬ l.length ≤ b := fun z => r (show σ.1 f_pendingSize ≤ σ.1 f_burning by rw [p1, hb2]; exact (lt b hb1).mpr z)
        refine mjZ_y rfl rfl 3 _ _ _ _ ty ?_
        refine (And.intro (Nat.le_of_ble_eq_true rfl) ?_)
        refine mjZ_y rfl rfl 2 _ _ _ _ ty ?_
        refine And.intro (fun s => ?_) (fun s => ?_)
        · exact absurd (show (1 : Int32) = 0 from s) (by decide)
        · refine mjZ_y rfl rfl 3 _ _ _ _ ty ?_
          refine (And.intro rfl (And.intro (Nat.le_of_ble_eq_true rfl) ?_))
          rw [hb2]
          exact s19 b 1 (by omega) (Or.inr ⟨rfl, hb2⟩)
end SYNC
