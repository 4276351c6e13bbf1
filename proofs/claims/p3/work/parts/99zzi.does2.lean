/-! does: a request, its log, its answer. -/
section DOES2
variable {Y : Nat → MethodName × ByteArray} {d : Nat}
abbrev dsF : List Nat := f_up :: f_diskSize :: f_burning :: doFs
abbrev dsH : List Nat := r_disk :: doHs
/-- the request is done and told -/
def dsA (u : mjS) (A : List AK) (c qe we ce R q M : Nat) (J : Nat → Nat) (N : Nat) (D : List Int32) : Prop := ∃ ws' ks' b ns qe' we' ce' I' G' P', Wd u ws' ks' [] ∧ DKs u (D ++ blkB b ns) ∧ CX u qe' we' ce' I' G' ∧ R + tp c I' G' ≤ P' ∧ LI (strip ks') P' ∧ LC P' A ns (strip ks') ∧ gG G' ∧ (qe' ≤ qe + 3 * q ∧ we' ≤ we + q ∧ ce' ≤ ce + q) ∧ ((encs ns).length ≤ 250000 ∧ (blkB b ns).length + kap (strip ks') + 50 * P' ≤ M ∧ P' ≤ N ∧ ∀ k, I' k ≤ J k) ∧ (b = false → ns.length ≤ 1) ∧ u.1 f_inBlock = 0
/-- the log broke off -/
def dsB (u : mjS) (A : List AK) (c qe we ce R q M : Nat) (J : Nat → Nat) (N : Nat) (D : List Int32) : Prop := ∃ ws' B b ns n qe' we' ce' I' G' P', Wd u ws' [] [] ∧ DKs u (D ++ (blkB b ns).take n) ∧ CX u qe' we' ce' I' G' ∧ R + tp c I' G' ≤ P' ∧ LI B P' ∧ LC P' A ns B ∧ gG G' ∧ (qe' ≤ qe + 3 * q ∧ we' ≤ we + q ∧ ce' ≤ ce + q) ∧ ((encs ns).length ≤ 250000 ∧ (blkB b ns).length + kap B + 50 * P' ≤ M ∧ P' ≤ N ∧ (∀ k, I' k ≤ J k) ∧ ∀ k, k < 4 → I' k = 0) ∧ (b = false → ns.length ≤ 1) ∧ u.1 f_inBlock = 0
def dsK (σ : mjS) (A : List AK) (c qe we ce R q M : Nat) (J : Nat → Nat) (N : Nat) (D : List Int32) : mjK := fun r u => Fr dsF dsH σ u ∧ BU u ∧ ((r = some (.int 1) ∧ u.1 f_up = σ.1 f_up ∧ dsA u A c qe we ce R q M J N D) ∨ (r = some (.int 0) ∧ u.1 f_up = 0 ∧ dsB u A c qe we ce R q M J N D))
theorem BU.fr {σ u : mjS} {fs hs : List Nat} (h : BU σ) (f : Fr fs hs σ u) (h1 : f_burning ∉ fs) : BU u := by unfold BU; rw [f.1 _ h1]; exact h
set_option maxRecDepth 100000 in
theorem c_does_t {σ u : mjS} {A : List AK} {c qe we ce R q M N : Nat} {J : Nat → Nat} {D : List Int32} (hc : c < 4) (ec : u.1 f_cur = nI c) (fu : Fr dsF dsH σ u) (tu : mjTY u) (bu : BU u) (hup : u.1 f_up = σ.1 f_up) (h : dsA u A c qe we ce R q M J N D) (x1 x2 x3 : Int32) (e1 : x1 = nI c) : mjY mjPP (mjQQ Y) (d + 3) 165 69 [some (.ref 0), some (.int x1), some (.int x2), some (.int x3)] [] u (dsK σ A c qe we ce R q M J N D) := by
  have v1 : vp_in x1 4 := by rw [e1]; exact vp_in_nI hc (by decide)
  obtain ⟨ws', ks', b, ns, qe', we', ce', I', G', P', a1, a2, a3, a4, a5, a6, a7, a8, a9, a10⟩ := h
  refine mjZ_y rfl rfl 3 _ _ _ _ tu ?_
  refine (And.intro (Nat.le_of_ble_eq_true rfl) (And.intro rfl (And.intro (Nat.le_of_ble_eq_true rfl) (And.intro (Nat.le_of_ble_eq_true rfl) (mjY_mono tu (fun q_ u1 ty1 h_ => ?_) (c_tell tu a1.2.2.2.1 a1.2.2.2.2 a3 hc e1))))))
  obtain ⟨rfl, f1, w1, I1, G1, x1', l1⟩ := h_
  intro _
  have h1 : Wd u1 ws' ks' [] := a1.wt f1 w1 (by decide) (by decide)
  have fs1 : Fr dsF dsH σ u1 := fu.tr (f1.up (by decide) (by decide))
  have t1 := l1.tpl c
  have fin : ∀ v, mjTY v → Fr dsF dsH σ v → BU v → v.1 f_up = σ.1 f_up → dsA v A c qe we ce R q M J N D → mjY mjPP (mjQQ Y) (d + 3) 165 82 [some (.ref 0), some (.int x1), some (.int x2), some (.int x3)] [] v (dsK σ A c qe we ce R q M J N D) := by
    intro v tv fv bv ev kv
    refine mjZ_y rfl rfl 2 _ _ _ _ tv ?_
    refine And.intro rfl (And.intro (Or.inr ⟨rfl, Or.inr rfl⟩) ?_)
    exact ⟨fv, bv, Or.inl ⟨rfl, ev, kv⟩⟩
  have k1 : dsA u1 A c qe we ce R q M J N D := ⟨ws', ks', b, ns, qe', we', ce', I1, G1, P', h1, a2.fr f1 (by decide) (by decide), x1', by omega, a5, a6, a7.cl l1, a8, ⟨a9.1, a9.2.1, a9.2.2.1, fun k => Nat.le_trans (l1.leI k) (a9.2.2.2 k)⟩, a10.1, by rw [f1.1 _ (by decide)]; exact a10.2⟩
  have b1 := bu.fr f1 (by decide)
  have e1' : u1.1 f_up = σ.1 f_up := by rw [f1.1 _ (by decide)]; exact hup
  refine mjZ_y rfl rfl 2 _ _ _ _ ty1 ?_
  refine And.intro (fun r => ?_) (fun r => ?_)
  · exact fin u1 ty1 fs1 b1 e1' k1
  · refine mjZ_y rfl rfl 5 _ _ _ _ ty1 ?_
    refine (And.intro rfl (And.intro (Or.inr rfl) (And.intro v1 (And.intro (fun s => ?_) (fun s => ?_)))))
    · exact fin u1 ty1 fs1 b1 e1' k1
    · refine mjZ_y rfl rfl 3 _ _ _ _ ty1 ?_
      refine (And.intro (Nat.le_of_ble_eq_true rfl) (And.intro rfl (And.intro (Nat.le_of_ble_eq_true rfl) (And.intro (Nat.le_of_ble_eq_true rfl) (mjY_mono ty1 (fun q_ u2 ty2 h_ => ?_) (x_close ty1 hc e1))))))
      obtain ⟨rfl, eu2⟩ := h_
      intro _
      have f2 : Fr [] c2H u1 u2 := by rw [eu2]; exact zrS_fr _ _ _
      have h2 : Wd u2 ws' ks' [] := by rw [eu2]; exact h1.wt (zrS_fr u1 c2H c) (WT_z h1.2.2.2.2 _ _ (by decide) (by decide)) (by decide) (by decide)
      have x2' : CX u2 qe' we' ce' (I0 I1 c) (G0 G1 c) := by rw [eu2]; exact CX_z x1' c
      have t2 := (CL.z I1 G1 c).tpl c
      exact fin u2 ty2 (fs1.tr (f2.up (by decide) (by decide))) (b1.fr f2 (by decide)) (by rw [f2.1 _ (by decide)]; exact e1') ⟨ws', ks', b, ns, qe', we', ce', _, _, P', h2, (a2.fr f1 (by decide) (by decide)).fr f2 (by decide) (by decide), x2', by omega, a5, a6, (a7.cl l1).cl (CL.z I1 G1 c), a8, ⟨a9.1, a9.2.1, a9.2.2.1, fun k => Nat.le_trans (((CL.z I1 G1 c).leI) k) (Nat.le_trans (l1.leI k) (a9.2.2.2 k))⟩, a10.1, by rw [f2.1 _ (by decide), f1.1 _ (by decide)]; exact a10.2⟩
set_option maxRecDepth 100000 in
theorem c_does_s {σ u : mjS} {ws : Req} {ks : List KR} {c qe we ce R M N : Nat} {J : Nat → Nat} {D : List Int32} (hc : c < 4) (ec : σ.1 f_cur = nI c) (f0 : Fr doFs doHs σ u) (tu : mjTY u) (hb : BU σ) (hD : DKs σ D) (hDl : D.length + M ≤ 700000) (h : doK u ws ks c qe we ce R M J N u) (x1 x2 x3 : Int32) (e1 : x1 = nI c) : mjY mjPP (mjQQ Y) (d + 5) 165 61 [some (.ref 0), some (.int x1), some (.int x2), some (.int x3)] [] u (dsK σ (strip ks) c qe we ce R (rw ws) M J N D) := by
  obtain ⟨-, ws', ks', b, ns, qe', we', ce', I', G', P', a1, a2, a3, a4, a5, a6, a7, a8, a9, a10, a11⟩ := h
  have en : u.1 f_pendingSize = nI (blkB b ns).length := a1.2.2.1.1
  have bl := blkB_len (b := b) (ns := ns)
  have bu : BU u := hb.fr f0 (by decide)
  have du : DKs u D := hD.fr f0 (by decide) (by decide)
  have ecu : u.1 f_cur = nI c := by rw [f0.1 _ (by decide)]; exact ec
  refine mjZ_y rfl rfl 3 _ _ _ _ tu ?_
  refine (And.intro rfl (And.intro (fun q => ?_) (fun q => ?_)))
  · have e0 : blkB b ns = [] := by
      have q : u.1 f_pendingSize ≤ 0 := q
      rw [en] at q
      exact List.length_eq_zero_iff.mp (Nat.le_zero.mp (Nat.le_of_not_lt (fun z => absurd q (nI_ge (b := (blkB b ns).length) (a := 0) z (by omega)))))
    rw [e0] at a1
    exact c_does_t (d := d + 2) hc ecu (f0.up (by decide) (by decide)) tu bu (f0.1 _ (by decide)) ⟨ws', ks', b, ns, qe', we', ce', I', G', P', a1, by rw [e0, List.append_nil]; exact du, a2, a3, a4, a5, a6, ⟨a7, a8, a9⟩, a10, a11⟩ x1 x2 x3 e1
  · refine mjZ_y rfl rfl 2 _ _ _ _ tu ?_
    refine (And.intro (Nat.le_of_ble_eq_true rfl) (And.intro rfl (And.intro (Nat.le_of_ble_eq_true rfl) (And.intro (Nat.le_of_ble_eq_true rfl) (mjY_mono tu (fun q_ u1 ty1 h_ => ?_) (c_sync a1 tu a2 du bu (by omega)))))))
    obtain ⟨f1, b1, k1⟩ := h_
    intro _
    have fs1 : Fr dsF dsH σ u1 := (f0.up (by decide) (by decide)).tr (f1.up (by decide) (by decide))
    rcases k1 with ⟨rfl, g1, g2, g3, g4⟩ | ⟨rfl, g1, g2, ⟨n, g3⟩, I2, G2, g4, l2, z2⟩
    · refine mjZ_y rfl rfl 1 _ _ _ _ ty1 ?_
      refine And.intro (fun r => ?_) (fun r => ?_)
      · exact c_does_t (d := d + 2) hc (by rw [f1.1 _ (by decide)]; exact ecu) fs1 ty1 b1 (g1.trans (f0.1 _ (by decide))) ⟨ws', ks', b, ns, qe', we', ce', I', G', P', g2, g3, g4, a3, a4, a5, a6, ⟨a7, a8, a9⟩, a10, a11.1, by rw [f1.1 _ (by decide)]; exact a11.2⟩ x1 x2 x3 e1
      · exact absurd (show ¬ (1 : Int32) = 0 by decide) r
    · refine mjZ_y rfl rfl 1 _ _ _ _ ty1 ?_
      refine And.intro (fun r => ?_) (fun r => ?_)
      · exact absurd rfl r
      · refine mjZ_y rfl rfl 2 _ _ _ _ ty1 ?_
        refine And.intro rfl (And.intro (Or.inr ⟨rfl, Or.inl rfl⟩) ?_)
        have t2 := l2.tpl c
        exact ⟨fs1, b1, Or.inr ⟨rfl, g1, ws', strip ks', b, ns, n, qe', we', ce', I2, G2, P', g2, g3, g4, by omega, a4, a5, a6.cl l2, ⟨a7, a8, a9⟩, ⟨a10.1, a10.2.1, a10.2.2.1, (fun k => Nat.le_trans (l2.leI k) (a10.2.2.2 k)), z2⟩, a11.1, by rw [f1.1 _ (by decide)]; exact a11.2⟩⟩
/-- what does finds -/
def dsPre (σ : mjS) (ws : Req) (ks : List KR) (c qe we ce : Nat) (I : Nat → Nat) (G : Nat → List Req) (P R : Nat) (D : List Int32) : Prop := (∃ l, Wd σ ws ks l) ∧ c < 4 ∧ σ.1 f_cur = nI c ∧ CX σ qe we ce I G ∧ TB σ ∧ σ.1 f_replays = 0 ∧ σ.1 f_inBlock = 0 ∧ 0 ≤ σ.2.1 f_now0 ∧ LI (strip ks) P ∧ rw ws + tp c I G + R ≤ P ∧ gG G ∧ (1 ≤ ws.length ∧ ∀ w ∈ ws, WOK w) ∧ qe + 3 * rw ws ≤ 200000 ∧ we + rw ws ≤ 50000 ∧ ce + rw ws ≤ 50000 ∧ BU σ ∧ DKs σ D ∧ D.length + (kap (strip ks) + 50 * P) ≤ 700000
set_option maxRecDepth 100000 in
theorem c_does {σ : mjS} {ws : Req} {ks : List KR} {c qe we ce : Nat} {I : Nat → Nat} {G : Nat → List Req} {P R : Nat} {D : List Int32} (h : dsPre σ ws ks c qe we ce I G P R D) (ty : mjTY σ) : mjY mjPP (mjQQ Y) (d + 12) 165 0 (mjL0 4 [.ref 0]) [] σ (dsK σ (strip ks) c qe we ce R (rw ws) (kap (strip ks) + 50 * P) I P D) := by
  obtain ⟨⟨l, h1⟩, h2, h3, h4, h5, h6, h7, h8, h9, h10, h11, ⟨h12, h13⟩, h17, h18, h19, h20, h21, h22⟩ := h
  have vc : vp_in (σ.1 f_cur) 4 := by rw [h3]; exact vp_in_nI h2 (by decide)
  refine mjZ_y rfl rfl 12 _ _ _ _ ty ?_
  refine (And.intro rfl (And.intro (Nat.le_of_ble_eq_true rfl) (And.intro rfl (And.intro (Or.inl rfl) (fun ty' => (And.intro rfl (And.intro (Or.inr ⟨rfl, Or.inl rfl⟩) (fun ty'' => (And.intro rfl (And.intro (Or.inl rfl) (fun ty''' => ?_)))))))))))
  have go : ∀ u : mjS, mjTY u → u = (upd (upd (upd σ.1 f_answerSize 0) f_tooLong 0) f_pendingSize 0, σ.2) → mjY mjPP (mjQQ Y) (d + 12) 165 12 [some (.ref 0), some (.int (σ.1 f_cur)), none, none] [] u (dsK σ (strip ks) c qe we ce R (rw ws) (kap (strip ks) + 50 * P) I P D) := by
    intro u tu eu
    have fu : Fr [f_answerSize, f_tooLong, f_pendingSize] [] σ u := by rw [eu]; exact ((Fr.i (by decide)).tr (Fr.i (by decide))).tr (Fr.i (by decide))
    have fdu : Fr doFs doHs σ u := fu.up (by decide) (by decide)
    have eA : u.1 f_answerSize = nI 0 := by
      rw [eu]; show upd (upd (upd σ.1 f_answerSize 0) f_tooLong 0) f_pendingSize 0 f_answerSize = _
      rw [pk_un (by decide), pk_un (by decide)]; exact pk_us (f := σ.1) (k := f_answerSize) (x := 0)
    have eP : u.1 f_pendingSize = nI 0 := by rw [eu]; exact pk_us (f := upd (upd σ.1 f_answerSize 0) f_tooLong 0) (k := f_pendingSize) (x := 0)
    have hu : Wd u ws ks [] := by
      obtain ⟨⟨hs, fk, fe, k⟩, a, -, -, t⟩ := h1
      exact ⟨⟨hs, fk, fe, k.fr fu (by decide) (by decide)⟩, a.fr fu (by decide) (by decide) (by decide) (by decide), ⟨eP, Nat.zero_le _, rfl⟩, ⟨⟨0, by decide, eA⟩, trivial⟩, t.fr fu (by decide) (by decide) (by decide)⟩
    have xu := h4.fr fu (by decide) (by decide)
    have tbu := h5.fr fu (by decide)
    have ecu : u.1 f_cur = nI c := by rw [fu.1 _ (by decide)]; exact h3
    have hi := cmC_le (gw ws 0)
    refine mjZ_y rfl rfl 2 _ _ _ _ tu ?_
    refine (And.intro (Nat.le_of_ble_eq_true rfl) (And.intro rfl (And.intro (Nat.le_of_ble_eq_true rfl) (And.intro (Nat.le_of_ble_eq_true rfl) (mjY_mono tu (fun q_ u1 ty1 h_ => ?_) (c_command hu.2.1 tu (gw_at (show 0 < ws.length by omega))))))))
    obtain ⟨rfl, rfl⟩ := h_
    intro _
    have ib : u1.1 f_inBlock = 0 := by rw [fu.1 _ (by decide)]; exact h7
    rw [tbu.cm]
    refine mjZ_y rfl rfl 3 _ _ _ _ ty1 ?_
    refine (And.intro (Nat.le_of_ble_eq_true rfl) (And.intro (Nat.le_of_ble_eq_true rfl) ?_))
    have s61 : ∀ v (x2 x3 : Int32), mjTY v → doK u1 ws ks c qe we ce R (kap (strip ks) + 50 * P) I P v → mjY mjPP (mjQQ Y) (d + 12) 165 61 [some (.ref 0), some (.int (σ.1 f_cur)), some (.int x2), some (.int x3)] [] v (dsK σ (strip ks) c qe we ce R (rw ws) (kap (strip ks) + 50 * P) I P D) := by
      intro v x2 x3 tv kv
      have fv : Fr doFs doHs σ v := fdu.tr kv.1
      exact c_does_s (d := d + 7) h2 h3 fv tv h20 h21 h22 ⟨Fr.rf, kv.2⟩ _ x2 x3 h3
    have s36 : ∀ v (x2 : Int32), mjTY v → oO u1 v → mjY mjPP (mjQQ Y) (d + 12) 165 36 [some (.ref 0), some (.int (σ.1 f_cur)), some (.int x2), some (.int (Int32.ofInt 0))] [] v (dsK σ (strip ks) c qe we ce R (rw ws) (kap (strip ks) + 50 * P) I P D) := by
      intro v x2 tv ov
      have base : ∀ w, Fr [] [r_spoilt] v w → doK u1 ws ks c qe we ce R (kap (strip ks) + 50 * P) I P w := fun w fw => doK_0 ((ov.1.up (by decide) (by decide)).tr (fw.up (by decide) (by decide))) ((hu.ans ov).fr fw (by decide) (by decide)) ((xu.fr ov.1 (by decide) (by decide)).fr fw (by decide) (by decide)) (by omega) h9 h11 (Nat.le_add_right _ _) (Nat.le_add_right _ _) (Nat.le_add_right _ _)
      refine mjZ_y rfl rfl 5 _ _ _ _ tv ?_
      refine (And.intro rfl (And.intro (Or.inr rfl) (And.intro vc (And.intro (fun q => ?_) (fun q => ?_)))))
      · exact s61 v _ _ tv (base v Fr.rf)
      · refine mjZ_y rfl rfl 6 _ _ _ _ tv ?_
        refine (And.intro rfl (And.intro (Or.inr ⟨rfl, Or.inr rfl⟩) (And.intro vc (fun tv' => ?_))))
        exact s61 _ _ _ tv' (base _ (Fr.a (by decide)))
    have s23 : ∀ x2 : Int32, mjY mjPP (mjQQ Y) (d + 12) 165 23 [some (.ref 0), some (.int (σ.1 f_cur)), some (.int x2), some (.int (Int32.ofInt 0))] [] u1 (dsK σ (strip ks) c qe we ce R (rw ws) (kap (strip ks) + 50 * P) I P D) := by
      intro x2
      refine mjZ_y rfl rfl 2 _ _ _ _ ty1 ?_
      refine And.intro (fun q => ?_) (fun q => ?_)
      · refine mjZ_y rfl rfl 4 _ _ _ _ ty1 ?_
        refine (And.intro (Nat.le_of_ble_eq_true rfl) (And.intro rfl (And.intro (Nat.le_of_ble_eq_true rfl) (And.intro (Nat.le_of_ble_eq_true rfl) (mjY_mono ty1 (fun q_ u2 ty2 h_ => ?_) (c_error ty1 hu.2.2.2.1 _ _))))))
        obtain ⟨rfl, o2⟩ := h_
        intro _
        refine mjZ_y rfl rfl 1 _ _ _ _ ty2 ?_
        exact s36 u2 _ ty2 o2
      · refine mjZ_y rfl rfl 4 _ _ _ _ ty1 ?_
        refine (And.intro (Nat.le_of_ble_eq_true rfl) (And.intro rfl (And.intro (Nat.le_of_ble_eq_true rfl) (And.intro (Nat.le_of_ble_eq_true rfl) (mjY_mono ty1 (fun q_ u2 ty2 h_ => ?_) (c_error ty1 hu.2.2.2.1 _ _))))))
        obtain ⟨rfl, o2⟩ := h_
        intro _
        refine mjZ_y rfl rfl 2 _ _ _ _ ty2 ?_
        exact s36 u2 _ ty2 o2
    refine mjZ_y rfl rfl 2 _ _ _ _ ty1 ?_
    refine And.intro (fun q => ?_) (fun q => ?_)
    · exact s23 _
    · have q : ¬ cmC (gw ws 0) = 0 := fun z => q (show nI (cmC (gw ws 0)) = 0 by rw [z]; rfl)
      refine mjZ_y rfl rfl 3 _ _ _ _ ty1 ?_
      refine (And.intro (Nat.le_of_ble_eq_true rfl) (And.intro rfl (And.intro (Nat.le_of_ble_eq_true rfl) (And.intro (Nat.le_of_ble_eq_true rfl) (mjY_mono ty1 (fun q_ u2 ty2 h_ => ?_) (c_arityFits hu.2.1 ty1 h12 (cmC (gw ws 0)) (by omega) rfl))))))
      obtain ⟨rfl, rfl⟩ := h_
      intro _
      rw [tbu.af (by omega) hi]
      refine mjZ_y rfl rfl 1 _ _ _ _ ty2 ?_
      refine And.intro (fun r => ?_) (fun r => ?_)
      · have r : afX (cmC (gw ws 0)) (ws.length - 1) = true := Decidable.of_not_not (fun z => r (bI_0.mpr (Bool.eq_false_iff.mpr z)))
        have pre : dPre u2 ws ks c (cmC (gw ws 0)) qe we ce I G P R := ⟨hu, h2, ecu, xu, tbu, by rw [fu.1 _ (by decide)]; exact h6, by rw [fu.1 _ (by decide)]; exact h7, by rw [fu.2.1 _ (by decide)]; exact h8, h9, h10, h11, ⟨h12, h13⟩, ⟨rfl, by omega, r⟩, h17, h18, h19⟩
        refine mjZ_y rfl rfl 5 _ _ _ _ ty2 ?_
        refine (And.intro rfl (And.intro (Or.inr rfl) (And.intro vc (And.intro (fun s => ?_) (fun s => ?_)))))
        · refine mjZ_y rfl rfl 3 _ _ _ _ ty2 ?_
          refine (And.intro (Nat.le_of_ble_eq_true rfl) (And.intro rfl (And.intro (Nat.le_of_ble_eq_true rfl) (And.intro (Nat.le_of_ble_eq_true rfl) (mjY_mono ty2 (fun q_ u3 ty3 h_ => ?_) (c_alone (d := d + 1) pre ty2 hi rfl))))))
          obtain ⟨⟨z, rfl⟩, k3⟩ := h_
          intro _
          refine mjZ_y rfl rfl 1 _ _ _ _ ty3 ?_
          refine (And.intro (Nat.le_of_ble_eq_true rfl) ?_)
          exact s61 u3 _ _ ty3 k3
        · refine mjZ_y rfl rfl 3 _ _ _ _ ty2 ?_
          refine (And.intro (Nat.le_of_ble_eq_true rfl) (And.intro rfl (And.intro (Nat.le_of_ble_eq_true rfl) (And.intro (Nat.le_of_ble_eq_true rfl) (mjY_mono ty2 (fun q_ u3 ty3 h_ => ?_) (c_within pre ty2 hi rfl))))))
          obtain ⟨⟨z, rfl⟩, k3⟩ := h_
          intro _
          refine mjZ_y rfl rfl 2 _ _ _ _ ty3 ?_
          refine (And.intro (Nat.le_of_ble_eq_true rfl) ?_)
          exact s61 u3 _ _ ty3 k3
      · exact s23 _
  exact go _ ty''' rfl
end DOES2
