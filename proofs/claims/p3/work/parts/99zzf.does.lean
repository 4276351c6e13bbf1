/-! EXEC as a whole; a request alone, or within a block. -/
section DOES
variable {Y : Nat → MethodName × ByteArray} {d : Nat}
/-- what a step leaves pending -/
def blkB (b : Bool) (ns : List Req) : List Int32 := if ns = [] then [] else if b = true then pendB true ns ++ encR [nm 100] else pendB false ns
/-- what waits: in the inputs but one, and in the blocks -/
def tpI (c : Nat) (I : Nat → Nat) : Nat := (if c = 0 then 0 else I 0) + (if c = 1 then 0 else I 1) + (if c = 2 then 0 else I 2) + (if c = 3 then 0 else I 3)
def tpG (G : Nat → List Req) : Nat := rqs (G 0) + rqs (G 1) + rqs (G 2) + rqs (G 3)
def tp (c : Nat) (I : Nat → Nat) (G : Nat → List Req) : Nat := tpI c I + tpG G
theorem CL.le {I I' : Nat → Nat} {G G' : Nat → List Req} (h : CL I I' G G') (k : Nat) : I' k ≤ I k ∧ rqs (G' k) ≤ rqs (G k) := by
  rcases h k with ⟨a, b⟩ | ⟨a, b⟩
  · rw [a, b]; exact ⟨Nat.le_refl _, Nat.le_refl _⟩
  · rw [a, b]; exact ⟨Nat.zero_le _, Nat.zero_le _⟩
theorem CL.tpl {I I' : Nat → Nat} {G G' : Nat → List Req} (h : CL I I' G G') (c : Nat) : tp c I' G' ≤ tp c I G := by
  have h0 := h.le 0; have h1 := h.le 1; have h2 := h.le 2; have h3 := h.le 3
  show tpI c I' + tpG G' ≤ tpI c I + tpG G
  unfold tpI tpG
  split <;> split <;> split <;> split <;> omega
theorem tp_G0 (c k : Nat) (hk : k < 4) (I : Nat → Nat) (G : Nat → List Req) : tp c I (G0 G k) + rqs (G k) = tp c I G := by
  have h : k = 0 ∨ k = 1 ∨ k = 2 ∨ k = 3 := by omega
  show tpI c I + tpG (G0 G k) + rqs (G k) = tpI c I + tpG G
  unfold tpG G0
  rcases h with rfl | rfl | rfl | rfl
  · rw [if_pos rfl, if_neg (by decide), if_neg (by decide), if_neg (by decide)]; show tpI c I + (0 + rqs (G 1) + rqs (G 2) + rqs (G 3)) + rqs (G 0) = _; omega
  · rw [if_neg (by decide), if_pos rfl, if_neg (by decide), if_neg (by decide)]; show tpI c I + (rqs (G 0) + 0 + rqs (G 2) + rqs (G 3)) + rqs (G 1) = _; omega
  · rw [if_neg (by decide), if_neg (by decide), if_pos rfl, if_neg (by decide)]; show tpI c I + (rqs (G 0) + rqs (G 1) + 0 + rqs (G 3)) + rqs (G 2) = _; omega
  · rw [if_neg (by decide), if_neg (by decide), if_neg (by decide), if_pos rfl]; show tpI c I + (rqs (G 0) + rqs (G 1) + rqs (G 2) + 0) + rqs (G 3) = _; omega
theorem rqs_app (a b : List Req) : rqs (a ++ b) = rqs a + rqs b := by
  induction a with
  | nil => show rqs b = 0 + rqs b; omega
  | cons q a ih => show rw q + rqs (a ++ b) = rw q + rqs a + rqs b; omega
theorem tp_Gq (c k : Nat) (hk : k < 4) (I : Nat → Nat) (G : Nat → List Req) (ws : Req) : tp c I (Gq G k ws) = tp c I G + rw ws := by
  have h : k = 0 ∨ k = 1 ∨ k = 2 ∨ k = 3 := by omega
  have e : ∀ g : List Req, rqs (g ++ [ws]) = rqs g + rw ws := fun g => by rw [rqs_app]; show rqs g + (rw ws + 0) = _; omega
  show tpI c I + tpG (Gq G k ws) = tpI c I + tpG G + rw ws
  unfold tpG Gq
  rcases h with rfl | rfl | rfl | rfl
  · rw [if_pos rfl, if_neg (by decide), if_neg (by decide), if_neg (by decide), e]; omega
  · rw [if_neg (by decide), if_pos rfl, if_neg (by decide), if_neg (by decide), e]; omega
  · rw [if_neg (by decide), if_neg (by decide), if_pos rfl, if_neg (by decide), e]; omega
  · rw [if_neg (by decide), if_neg (by decide), if_neg (by decide), if_pos rfl, e]; omega
def gG (G : Nat → List Req) : Prop := ∀ k q, q ∈ G k → gQ q
theorem gG.cl {I I' : Nat → Nat} {G G' : Nat → List Req} (h : gG G) (l : CL I I' G G') : gG G' := fun k q hq => by
  rcases l k with ⟨-, b⟩ | ⟨-, b⟩
  · rw [b] at hq; exact h k q hq
  · rw [b] at hq; cases hq
theorem gG.z {G : Nat → List Req} (h : gG G) (c : Nat) : gG (G0 G c) := fun k q hq => by
  unfold G0 at hq
  by_cases z : k = c
  · rw [if_pos z] at hq; cases hq
  · rw [if_neg z] at hq; exact h k q hq
/-- what a request may change -/
abbrev doFs : List Nat := f_words :: f_reqSize :: f_inBlock :: f_queueEnd :: f_watchEnd :: f_channelEnd :: cF
abbrev doF0 : List Nat := f_words :: f_reqSize :: f_queueEnd :: f_watchEnd :: f_channelEnd :: cF
abbrev doHs : List Nat := awH ++ ruH ++ [r_queue, r_queuedAt, r_watchAt, r_watchLen, r_watchText, r_channelAt, r_channelLen, r_channelText]
theorem blkB_len {b : Bool} {ns : List Req} : (blkB b ns).length ≤ 132 + (encs ns).length := by
  unfold blkB
  have h1 := encR_len 100 (by decide) []
  have e : sz [] = 0 := rfl
  by_cases c : ns = []
  · rw [if_pos c]; exact Nat.zero_le _
  · rw [if_neg c]
    by_cases hb : b = true
    · rw [if_pos hb, List.length_append]
      have := pendB_len (b := true) (ns := ns); omega
    · rw [if_neg hb]
      have := pendB_len (b := false) (ns := ns); omega
theorem blkB_f {ns : List Req} : (blkB false ns).length ≤ (encs ns).length := by
  unfold blkB
  by_cases c : ns = []
  · rw [if_pos c]; exact Nat.zero_le _
  · rw [if_neg c, if_neg (by decide)]
    unfold pendB
    rw [if_neg c, if_neg (by decide)]
    exact Nat.le_refl _
theorem CL.leI {I I' : Nat → Nat} {G G' : Nat → List Req} (l : CL I I' G G') : ∀ k, I' k ≤ I k := fun k => by
  rcases l k with ⟨e, -⟩ | ⟨e, -⟩ <;> rw [e]
  · exact Nat.le_refl _
  · exact Nat.zero_le _
/-- a request has been done: the block or the command that it ran, the lists on its way, what is left of the fed bytes -/
def doK (σ : mjS) (ws : Req) (ks : List KR) (c qe we ce : Nat) (R M : Nat) (J : Nat → Nat) (N : Nat) : mjS → Prop := fun u => Fr doFs doHs σ u ∧ ∃ ws' ks' b ns qe' we' ce' I' G' P', Wd u ws' ks' (blkB b ns) ∧ CX u qe' we' ce' I' G' ∧ R + tp c I' G' ≤ P' ∧ LI (strip ks') P' ∧ LC P' (strip ks) ns (strip ks') ∧ gG G' ∧ qe' ≤ qe + 3 * rw ws ∧ we' ≤ we + rw ws ∧ ce' ≤ ce + rw ws ∧ ((encs ns).length ≤ 250000 ∧ (blkB b ns).length + kap (strip ks') + 50 * P' ≤ M ∧ P' ≤ N ∧ ∀ k, I' k ≤ J k) ∧ (b = false → ns.length ≤ 1) ∧ u.1 f_inBlock = 0
theorem doK_0 {σ u : mjS} {ws : Req} {ks : List KR} {c qe we ce R P : Nat} {ws' : Req} {qe' we' ce' : Nat} {I' J : Nat → Nat} {G' : Nat → List Req} (f : Fr doF0 doHs σ u) (h : Wd u ws' ks []) (hX : CX u qe' we' ce' I' G') (hp : R + tp c I' G' ≤ P) (hL : LI (strip ks) P) (hG : gG G') (q1 : qe' ≤ qe + 3 * rw ws) (q2 : we' ≤ we + rw ws) (q3 : ce' ≤ ce + rw ws) (hJ : ∀ k, I' k ≤ J k := by exact fun _ => Nat.le_refl _) (hb : σ.1 f_inBlock = 0 := by assumption) : doK σ ws ks c qe we ce R (kap (strip ks) + 50 * P) J P u :=
  ⟨f.up (by decide) (by decide), ws', ks, false, [], qe', we', ce', I', G', P, h, hX, hp, hL, rfl, hG, q1, q2, q3, ⟨Nat.zero_le _, by show 0 + _ + _ ≤ _; omega, Nat.le_refl _, hJ⟩, fun _ => Nat.zero_le _, by rw [f.1 _ (by decide)]; exact hb⟩
theorem zr_fr {σ : mjS} {c : Nat} : Fr doFs doHs σ (zrS σ ebH c) := (zrS_fr σ ebH c).up (by decide) (by decide)
theorem Wd.zr {σ : mjS} {ws : Req} {ks : List KR} {l : List Int32} (h : Wd σ ws ks l) (c : Nat) : Wd (zrS σ ebH c) ws ks l := h.wt (zrS_fr σ ebH c) (WT_z h.2.2.2.2 _ _ (by decide) (by decide)) (by decide) (by decide)
set_option maxRecDepth 100000 in
theorem r_exec {σ : mjS} {ws : Req} {ks : List KR} (h : Wd σ ws ks []) (ty : mjTY σ) {c : Nat} (hc : c < 4) (ec : σ.1 f_cur = nI c) {qe we ce : Nat} {I : Nat → Nat} {G : Nat → List Req} (hX : CX σ qe we ce I G) (hT : TB σ) (hrp : σ.1 f_replays = 0) (hnow : 0 ≤ σ.2.1 f_now0) (hB0 : σ.1 f_inBlock = 0) {P R : Nat} (hL : LI (strip ks) P) (hp : R + 3 + tp c I G ≤ P) (hG : gG G) : mjY mjPP (mjQQ Y) (d + 10) 153 0 (mjL0 6 [.ref 0]) [] σ (fun r u => r = none ∧ doK σ ws ks c qe we ce R (kap (strip ks) + 50 * P) I P u) := by
  have vc : vp_in (σ.1 f_cur) 4 := by rw [ec]; exact vp_in_nI hc (by decide)
  have cc : (σ.1 f_cur).toNatClampNeg = c := by rw [ec]; exact nI_clamp (by omega)
  obtain ⟨-, -, ⟨eQ, hQ2, hQ3⟩, -⟩ := hX.1 c hc
  have ht0 := tp_G0 c c hc I G
  refine mjZ_y rfl rfl 21 _ _ _ _ ty ?_
  refine (And.intro rfl (And.intro (Nat.le_of_ble_eq_true rfl) (And.intro rfl (And.intro (Or.inr rfl) (And.intro vc (And.intro (Nat.le_of_ble_eq_true rfl) (And.intro rfl (And.intro (Or.inr rfl) (And.intro vc (And.intro (Nat.le_of_ble_eq_true rfl) (And.intro rfl (And.intro rfl (And.intro vc (And.intro (Nat.le_of_ble_eq_true rfl) (And.intro (Nat.le_of_ble_eq_true rfl) (And.intro rfl (And.intro (Nat.le_of_ble_eq_true rfl) (And.intro (Nat.le_of_ble_eq_true rfl) (mjY_mono ty (fun q_ u1 ty1 h_ => ?_) (x_endBlock ty hc ec))))))))))))))))))))
  obtain ⟨rfl, eu1⟩ := h_
  intro _
  have f1 : Fr [] ebH σ u1 := by rw [eu1]; exact zrS_fr _ _ _
  have fd1 : Fr doF0 doHs σ u1 := f1.up (by decide) (by decide)
  have h1 : Wd u1 ws ks [] := by rw [eu1]; exact h.zr c
  have hX1 : CX u1 qe we ce I (G0 G c) := by rw [eu1]; exact CX_eb hX c
  have fin0 : ∀ u, Fr doF0 doHs σ u → Wd u ws ks [] → CX u qe we ce I (G0 G c) → doK σ ws ks c qe we ce R (kap (strip ks) + 50 * P) I P u := fun u fu hu xu => doK_0 fu hu xu (by omega) hL (hG.z c) (Nat.le_add_right _ _) (Nat.le_add_right _ _) (Nat.le_add_right _ _)
  refine mjZ_y rfl rfl 2 _ _ _ _ ty1 ?_
  refine And.intro (fun q => ?_) (fun q => ?_)
  · refine mjZ_y rfl rfl 2 _ _ _ _ ty1 ?_
    refine And.intro (fun r => ?_) (fun r => ?_)
    · refine mjZ_y rfl rfl 3 _ _ _ _ ty1 ?_
      refine (And.intro (Nat.le_of_ble_eq_true rfl) (And.intro rfl (And.intro (Nat.le_of_ble_eq_true rfl) (And.intro (Nat.le_of_ble_eq_true rfl) (mjY_mono ty1 (fun q_ u2 ty2 h_ => ?_) (w_row h1 ty1 _))))))
      obtain ⟨rfl, h2, o2⟩ := h_
      intro _
      have hX2 := hX1.fr o2.1 (by decide) (by decide)
      refine mjZ_y rfl rfl 5 _ _ _ _ ty2 ?_
      refine (And.intro rfl (And.intro (Or.inr ⟨rfl, Or.inr rfl⟩) (fun ty2' => (And.intro (Nat.le_of_ble_eq_true rfl) ?_))))
      have go : ∀ u : mjS, mjTY u → u = (upd u2.1 f_inBlock 1, u2.2) → mjY mjPP (mjQQ Y) (d + 10) 153 48 [some (.ref 0), some (.int (σ.1 f_cur)), some (.int (σ.2.2.1 r_spoilt (σ.1 f_cur).toNatClampNeg)), some (.int (σ.2.2.1 r_disturbed (σ.1 f_cur).toNatClampNeg)), some (.int (σ.2.2.1 r_queued (σ.1 f_cur).toNatClampNeg)), some (.int (Int32.ofInt 0))] [] u (fun r u => r = none ∧ doK σ ws ks c qe we ce R (kap (strip ks) + 50 * P) I P u) := by
        intro u tu eu
        have f2 : Fr [f_inBlock] [] u2 u := by rw [eu]; exact Fr.i (by decide)
        have fu : Fr (f_inBlock :: cF) ruH σ u := ((f1.up (by decide) (by decide)).tr (o2.1.up (by decide) (by decide))).tr (f2.up (by decide) (by decide))
        have hu : Wd u ws ks (pendB true []) := h2.fr f2 (by decide) (by decide)
        have hXu := hX2.fr f2 (by decide) (by decide)
        have eB : ¬ u.1 f_inBlock = 0 := by
          rw [eu]; show ¬ upd u2.1 f_inBlock 1 f_inBlock = 0
          rw [pk_us (f := u2.1) (k := f_inBlock) (x := 1)]; decide
        have hrq : rqs (G c) ≤ P := by omega
        have hp10 : P ≤ 10240 := by have := hL.2.2.1; omega
        refine c_exec_loop _ hc (qs := G c) (A0 := strip ks) hQ2 (fun q hq => hG c q hq) _ _ _ _ ec (by rw [cc]; exact eQ) (G c).length 0 u ws ks [] I (G0 G c) P _ rfl (by omega) tu hu hXu (hT.fr fu (by decide)) (by rw [fu.1 _ (by decide)]; exact ec) eB (by rw [fu.1 _ (by decide)]; exact hrp) (by rw [fu.2.1 _ (by decide)]; exact hnow) hL (fun i q _ hq => ?_) (by rw [List.drop_zero]; exact hrq) (by rw [List.drop_zero]; show 0 + _ + _ ≤ _; omega) rfl (M := kap (strip ks) + 50 * P) (by show 0 + _ + _ ≤ _; omega) (fun v ws' ks' ns' I' G' x5 tv fv hv xv lv av cv len cst => ?_)
        · obtain ⟨pos, p1, p2, p3⟩ := hQ3 i q hq
          have := hX.2.1.2
          exact ⟨pos, by rw [(fu.2.2 _ (by decide)).1]; exact p1, by omega, by rw [(fu.2.2 _ (by decide)).1]; exact p3⟩
        rw [List.drop_zero] at av cv cst
        have fsv : Fr doFs doHs σ v := (fu.up (by decide) (by decide)).tr (fv.up (by decide) (by decide))
        have hTv : TB v := hT.fr fsv (by decide)
        have hrl := lv.tpl c
        refine mjZ_y rfl rfl 3 _ _ _ _ tv ?_
        refine (And.intro rfl (And.intro (Or.inr ⟨rfl, Or.inl rfl⟩) (fun tv' => ?_)))
        have go2 : ∀ w : mjS, mjTY w → w = (upd v.1 f_inBlock 0, v.2) → mjY mjPP (mjQQ Y) (d + 10) 153 70 [some (.ref 0), some (.int (σ.1 f_cur)), some (.int (σ.2.2.1 r_spoilt (σ.1 f_cur).toNatClampNeg)), some (.int (σ.2.2.1 r_disturbed (σ.1 f_cur).toNatClampNeg)), some (.int (σ.2.2.1 r_queued (σ.1 f_cur).toNatClampNeg)), some (.int x5)] [] w (fun r u => r = none ∧ doK σ ws ks c qe we ce R (kap (strip ks) + 50 * P) I P u) := by
          intro w tw ew
          have fw : Fr [f_inBlock] [] v w := by rw [ew]; exact Fr.i (by decide)
          have eW : w.1 f_inBlock = 0 := by rw [ew]; exact pk_us (f := v.1) (k := f_inBlock) (x := 0)
          have hw : Wd w ws' ks' (pendB true ns') := hv.fr fw (by decide) (by decide)
          have xw := xv.fr fw (by decide) (by decide)
          have fsw : Fr doFs doHs σ w := fsv.tr (fw.up (by decide) (by decide))
          have pl := pendB_len (b := true) (ns := ns')
          have en : w.1 f_pendingSize = nI (pendB true ns').length := hw.2.2.1.1
          refine mjZ_y rfl rfl 3 _ _ _ _ tw ?_
          refine (And.intro rfl (And.intro (fun s => ?_) (fun s => ?_)))
          · have e0 : ns' = [] := by
              have s : w.1 f_pendingSize ≤ 0 := s
              rw [en] at s
              have : (pendB true ns').length = 0 := Nat.le_zero.mp (Nat.le_of_not_lt (fun z => absurd s (nI_ge (b := (pendB true ns').length) (a := 0) z (by omega))))
              exact pendB_nil.mp (List.length_eq_zero_iff.mp this)
            subst e0
            refine mjZ_y rfl rfl 1 _ _ _ _ tw ?_
            refine And.intro rfl (And.intro rfl ?_)
            exact ⟨rfl, fsw, ws', ks', true, [], qe, we, ce, I', G', P - rqs (G c), hw, xw, by omega, av, cv, (hG.z c).cl lv, Nat.le_add_right _ _, Nat.le_add_right _ _, Nat.le_add_right _ _, ⟨Nat.zero_le _, by show 0 + _ + _ ≤ _; have cst : 0 + _ + _ ≤ _ := cst; omega, by omega, lv.leI⟩, fun z => (by cases z), eW⟩
          · have n0 : ns' ≠ [] := fun z => by
              refine s (show w.1 f_pendingSize ≤ 0 from ?_)
              rw [en, z]; exact Int32.le_refl _
            refine mjZ_y rfl rfl 4 _ _ _ _ tw ?_
            refine (And.intro (Nat.le_of_ble_eq_true rfl) (And.intro rfl (And.intro (Nat.le_of_ble_eq_true rfl) (And.intro (Nat.le_of_ble_eq_true rfl) (mjY_mono tw (fun q_ u5 ty5 h_ => ?_) (c_noteNumber tw hw.2.2.1 (by omega) 42 rfl 1))))))
            obtain ⟨rfl, f5, p5⟩ := h_
            intro _
            have l5 : (pendB true ns' ++ (42 :: dec 1 ++ [13, 10])).length ≤ (pendB true ns').length + 30 := by
              rw [List.length_append]
              have := dec_len 1
              simp only [List.length_append, List.length_cons, List.length_nil]; omega
            refine mjZ_y rfl rfl 3 _ _ _ _ ty5 ?_
            refine (And.intro (Nat.le_of_ble_eq_true rfl) (And.intro rfl (And.intro (Nat.le_of_ble_eq_true rfl) (And.intro (Nat.le_of_ble_eq_true rfl) (mjY_mono ty5 (fun q_ u6 ty6 h_ => ?_) (c_noteName ty5 p5 100 (by decide) (by omega)))))))
            obtain ⟨rfl, f6, p6⟩ := h_
            intro _
            have fw6 : Fr nF nH3 w u6 := (f5.up (by decide) (by decide)).tr f6
            have e6 : pendB true ns' ++ (42 :: dec 1 ++ [13, 10]) ++ wordL (nmOf u5 100) = blkB true ns' := by
              have e5 : nmOf u5 100 = nm 100 := (hTv.fr ((fw.up (fs' := f_inBlock :: nF) (hs' := nH3) (by decide) (by decide)).tr (f5.up (by decide) (by decide))) (by decide)).nmE (by decide) (by decide)
              have e7 : encR [nm 100] = headL u5 1 100 := by rw [head_1, e5]
              unfold blkB
              rw [if_neg n0, if_pos rfl, e7]
              unfold headL; simp
            rw [e6] at p6
            refine mjZ_y rfl rfl 1 _ _ _ _ ty6 ?_
            refine And.intro rfl (And.intro rfl ?_)
            have h6 := hw.nt fw6 p6
            exact ⟨rfl, fsw.tr (fw6.up (by decide) (by decide)), ws', ks', true, ns', qe, we, ce, I', G', P - rqs (G c) - 3, h6, xw.fr fw6 (by decide) (by decide), by omega, av.less (by omega), LC_less (by omega) cv, (hG.z c).cl lv, Nat.le_add_right _ _, Nat.le_add_right _ _, Nat.le_add_right _ _, ⟨len, by have bl := blkB_len (b := true) (ns := ns'); omega, by omega, lv.leI⟩, fun z => (by cases z), by rw [fw6.1 _ (by decide)]; exact eW⟩
        exact go2 _ tv' rfl
      exact go _ ty2' rfl
    · refine mjZ_y rfl rfl 3 _ _ _ _ ty1 ?_
      refine (And.intro (Nat.le_of_ble_eq_true rfl) (And.intro rfl (And.intro (Nat.le_of_ble_eq_true rfl) (And.intro (Nat.le_of_ble_eq_true rfl) (mjY_mono ty1 (fun q_ u2 ty2 h_ => ?_) (w_letters h1 ty1 _))))))
      obtain ⟨rfl, h2, o2⟩ := h_
      intro _
      refine mjZ_y rfl rfl 2 _ _ _ _ ty2 ?_
      refine (And.intro (Nat.le_of_ble_eq_true rfl) (And.intro rfl (And.intro (Nat.le_of_ble_eq_true rfl) (And.intro (Nat.le_of_ble_eq_true rfl) (mjY_mono ty2 (fun q_ u3 ty3 h_ => ?_) (w_line h2 ty2))))))
      obtain ⟨rfl, h3, o3⟩ := h_
      intro _
      refine mjZ_y rfl rfl 1 _ _ _ _ ty3 ?_
      refine And.intro rfl (And.intro rfl ?_)
      have o := o2.tr o3
      exact ⟨rfl, fin0 u3 (fd1.tr (o.1.up (by decide) (by decide))) h3 (hX1.fr o.1 (by decide) (by decide))⟩
  · refine mjZ_y rfl rfl 3 _ _ _ _ ty1 ?_
    refine (And.intro (Nat.le_of_ble_eq_true rfl) (And.intro rfl (And.intro (Nat.le_of_ble_eq_true rfl) (And.intro (Nat.le_of_ble_eq_true rfl) (mjY_mono ty1 (fun q_ u2 ty2 h_ => ?_) (w_letters h1 ty1 _))))))
    obtain ⟨rfl, h2, o2⟩ := h_
    intro _
    refine mjZ_y rfl rfl 3 _ _ _ _ ty2 ?_
    refine (And.intro (Nat.le_of_ble_eq_true rfl) (And.intro rfl (And.intro (Nat.le_of_ble_eq_true rfl) (And.intro (Nat.le_of_ble_eq_true rfl) (mjY_mono ty2 (fun q_ u3 ty3 h_ => ?_) (w_letters h2 ty2 _))))))
    obtain ⟨rfl, h3, o3⟩ := h_
    intro _
    refine mjZ_y rfl rfl 2 _ _ _ _ ty3 ?_
    refine (And.intro (Nat.le_of_ble_eq_true rfl) (And.intro rfl (And.intro (Nat.le_of_ble_eq_true rfl) (And.intro (Nat.le_of_ble_eq_true rfl) (mjY_mono ty3 (fun q_ u4 ty4 h_ => ?_) (w_line h3 ty3))))))
    obtain ⟨rfl, h4, o4⟩ := h_
    intro _
    refine mjZ_y rfl rfl 1 _ _ _ _ ty4 ?_
    refine And.intro rfl (And.intro rfl ?_)
    have o := (o2.tr o3).tr o4
    exact ⟨rfl, fin0 u4 (fd1.tr (o.1.up (by decide) (by decide))) h4 (hX1.fr o.1 (by decide) (by decide))⟩
end DOES
