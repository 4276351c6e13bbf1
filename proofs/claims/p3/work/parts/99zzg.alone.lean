/-! A request alone, and one within a block. -/
section ALONE
variable {Y : Nat → MethodName × ByteArray} {d : Nat}
/-- what a request finds -/
def dPre (σ : mjS) (ws : Req) (ks : List KR) (c i qe we ce : Nat) (I : Nat → Nat) (G : Nat → List Req) (P R : Nat) : Prop := Wd σ ws ks [] ∧ c < 4 ∧ σ.1 f_cur = nI c ∧ CX σ qe we ce I G ∧ TB σ ∧ σ.1 f_replays = 0 ∧ σ.1 f_inBlock = 0 ∧ 0 ≤ σ.2.1 f_now0 ∧ LI (strip ks) P ∧ rw ws + tp c I G + R ≤ P ∧ gG G ∧ (1 ≤ ws.length ∧ ∀ w ∈ ws, WOK w) ∧ (cmC (gw ws 0) = i ∧ 1 ≤ i ∧ afX i (ws.length - 1) = true) ∧ qe + 3 * rw ws ≤ 200000 ∧ we + rw ws ≤ 50000 ∧ ce + rw ws ≤ 50000
theorem qsz_rw (ws : Req) : qsz ws ≤ 2 * rw ws := by
  induction ws with
  | nil => exact Nat.le_refl _
  | cons w r ih =>
    show 3 + w.length + qsz r ≤ 2 * (rw1 w + rw r)
    unfold rw1
    by_cases c : w.length = 0
    · rw [if_pos c]; omega
    · rw [if_neg c]; omega
theorem doK_run {σ u : mjS} {ws : Req} {ks : List KR} {c i qe we ce : Nat} {I : Nat → Nat} {G : Nat → List Req} {P R : Nat} (h : dPre σ ws ks c i qe we ce I G P R) (hi : i ≤ 105) {r : Option Value} (k : runK σ ws ks [] qe we ce I G (rnE σ ks i ws) r u) : doK σ ws ks c qe we ce R (kap (strip ks) + 50 * P) I P u := by
  obtain ⟨h1, h2, h3, h4, h5, h6, h7, h8, h9, h10, h11, ⟨h12, h13⟩, ⟨h14, h15, h16⟩, h17, h18, h19⟩ := h
  have h1024 := h1.2.1.2.1
  obtain ⟨s1, s2, s3⟩ := step_LC h5 h15 hi h9 (by omega) h12 h1024 h13 h16 h6 h8
  have hl' := LI_run h5 h15 hi h9 (by omega) h12 h1024 h13 h16 h6 h8
  obtain ⟨-, f, ⟨ks', hw, ek⟩, I', G', hX, hl⟩ := k
  have eb : (¬ σ.1 f_inBlock = 0) ↔ false = true := ⟨fun z => absurd h7 z, fun z => by cases z⟩
  have el := rnL_pend (b := false) (ns := []) h5 eb h6 s2 (Or.inr rfl)
  have e0 : pendB false [] = [] := rfl
  rw [e0, List.nil_append] at el
  rw [el] at hw
  have ht := hl.tpl c
  have sc := step_cost h5 h15 hi h9 (by omega) h12 h1024 h13 h16 (by rw [h14]; exact h15) h6 h8
  have bf := blkB_f (ns := noteR (rnE σ ks i ws))
  have zr := sz_rw ws
  have hp10 : P ≤ 10240 := by have := h9.2.2.1; omega
  refine ⟨f.up (by decide) (by decide), ws, ks', false, noteR (rnE σ ks i ws), qe, we, ce, I', G', P - rw ws, ?_, hX, by omega, by rw [ek]; exact hl', by rw [ek]; exact s1, h11.cl hl, Nat.le_add_right _ _, Nat.le_add_right _ _, Nat.le_add_right _ _, ⟨by omega, by rw [ek]; omega, by omega, hl.leI⟩, fun _ => ?_, by rw [f.1 _ (by decide)]; exact h7⟩
  · have eb2 : blkB false (noteR (rnE σ ks i ws)) = pendB false (noteR (rnE σ ks i ws)) := by
      unfold blkB
      by_cases z : noteR (rnE σ ks i ws) = []
      · rw [if_pos z, z]; rfl
      · rw [if_neg z, if_neg (by decide)]
    rw [eb2]; exact hw
  · cases rnE σ ks i ws with
    | none => exact Nat.zero_le _
    | some q => exact Nat.le_refl _
set_option maxRecDepth 100000 in
theorem c_alone {σ : mjS} {ws : Req} {ks : List KR} {c i qe we ce : Nat} {I : Nat → Nat} {G : Nat → List Req} {P R : Nat} (h : dPre σ ws ks c i qe we ce I G P R) (ty : mjTY σ) (hi : i ≤ 105) {x : Int32} (ex : x = nI i) : mjY mjPP (mjQQ Y) (d + 10) 163 0 (mjL0 3 [.ref 0, .int x]) [] σ (fun r u => (∃ z, r = some (.int z)) ∧ doK σ ws ks c qe we ce R (kap (strip ks) + 50 * P) I P u) := by
  have hpre := h
  obtain ⟨h1, h2, h3, h4, h5, h6, h7, h8, h9, h10, h11, ⟨h12, h13⟩, ⟨h14, h15, h16⟩, h17, h18, h19⟩ := h
  have h1024 := h1.2.1.2.1
  have r1 := rw_ge ws
  have sd := sl_drop ws 1
  have nn : ∀ k : Nat, k < 128 → ((¬ x = nI k) ↔ ¬ i = k) := fun k hk => by rw [ex, nI_eq (by omega) (by omega)]
  have vc : vp_in (σ.1 f_cur) 4 := by rw [h3]; exact vp_in_nI h2 (by decide)
  have cc : (σ.1 f_cur).toNatClampNeg = c := by rw [h3]; exact nI_clamp (by omega)
  have fin : ∀ u, mjTY u → doK σ ws ks c qe we ce R (kap (strip ks) + 50 * P) I P u → mjY mjPP (mjQQ Y) (d + 10) 163 87 [some (.ref 0), some (.int x), some (.int (σ.1 f_cur))] [] u (fun r u => (∃ z, r = some (.int z)) ∧ doK σ ws ks c qe we ce R (kap (strip ks) + 50 * P) I P u) := by
    intro u tu ku
    refine mjZ_y rfl rfl 2 _ _ _ _ tu ?_
    refine And.intro rfl (And.intro (Or.inr ⟨rfl, Or.inl rfl⟩) ?_)
    exact ⟨⟨_, rfl⟩, ku⟩
  have ans : ∀ u, oO σ u → doK σ ws ks c qe we ce R (kap (strip ks) + 50 * P) I P u := fun u o => doK_0 (o.1.up (by decide) (by decide)) (h1.ans o) (h4.fr o.1 (by decide) (by decide)) (by omega) h9 h11 (Nat.le_add_right _ _) (Nat.le_add_right _ _) (Nat.le_add_right _ _)
  have s26 : mjY mjPP (mjQQ Y) (d + 10) 163 26 [some (.ref 0), some (.int x), some (.int (σ.1 f_cur))] [] σ (fun r u => (∃ z, r = some (.int z)) ∧ doK σ ws ks c qe we ce R (kap (strip ks) + 50 * P) I P u) := by
    refine mjZ_y rfl rfl 3 _ _ _ _ ty ?_
    refine And.intro (fun a => ?_) (fun a => ?_)
    · have a : ¬ i = 96 := (nn 96 (by decide)).mp a
      refine mjZ_y rfl rfl 3 _ _ _ _ ty ?_
      refine And.intro (fun b => ?_) (fun b => ?_)
      · have b : ¬ i = 99 := (nn 99 (by decide)).mp b
        have s66 : i ≠ 100 → i ≠ 101 → mjY mjPP (mjQQ Y) (d + 10) 163 66 [some (.ref 0), some (.int x), some (.int (σ.1 f_cur))] [] σ (fun r u => (∃ z, r = some (.int z)) ∧ doK σ ws ks c qe we ce R (kap (strip ks) + 50 * P) I P u) := by
          intro n0 n1
          refine mjZ_y rfl rfl 3 _ _ _ _ ty ?_
          refine And.intro (fun e => ?_) (fun e => ?_)
          · have e : ¬ i = 97 := (nn 97 (by decide)).mp e
            refine mjZ_y rfl rfl 3 _ _ _ _ ty ?_
            refine And.intro (fun g => ?_) (fun g => ?_)
            · have g : ¬ i = 102 := (nn 102 (by decide)).mp g
              refine mjZ_y rfl rfl 3 _ _ _ _ ty ?_
              refine And.intro (fun k => ?_) (fun k => ?_)
              · have k : ¬ i = 103 := (nn 103 (by decide)).mp k
                have hn : i ∉ [96, 97, 99, 100, 101, 102, 103] := by
                  simp only [List.mem_cons, List.not_mem_nil, or_false]; omega
                have B := BD_live (l := []) h5 h15 hi h9 (by omega) h1024 h13 h16 (by have := sz_rw ws; have := h9.2.2.1; show 0 + 700 + _ ≤ _; omega) h6
                refine mjZ_y rfl rfl 3 _ _ _ _ ty ?_
                refine (And.intro (Nat.le_of_ble_eq_true rfl) (And.intro rfl (And.intro (Nat.le_of_ble_eq_true rfl) (And.intro (Nat.le_of_ble_eq_true rfl) (mjY_mono ty (fun q_ u1 ty1 h_ => ?_) (run_all h1 ty h4 h2 h3 i h15 hi hn B h16 h12 ex))))))
                have k1 := h_
                intro _
                have e1 : q_ = none := k1.1
                subst e1
                exact fin u1 ty1 (doK_run hpre hi k1)
              · refine mjZ_y rfl rfl 2 _ _ _ _ ty ?_
                refine (And.intro (Nat.le_of_ble_eq_true rfl) (And.intro rfl (And.intro (Nat.le_of_ble_eq_true rfl) (And.intro (Nat.le_of_ble_eq_true rfl) (mjY_mono ty (fun q_ u1 ty1 h_ => ?_) (r_unsubscribe h1 ty h2 h3 h12 h4))))))
                obtain ⟨rfl, f1, w1, x1⟩ := h_
                intro _
                refine mjZ_y rfl rfl 1 _ _ _ _ ty1 ?_
                exact fin u1 ty1 (doK_0 (f1.up (by decide) (by decide)) w1 x1 (by omega) h9 h11 (Nat.le_add_right _ _) (Nat.le_add_right _ _) (Nat.le_add_right _ _))
            · refine mjZ_y rfl rfl 2 _ _ _ _ ty ?_
              refine (And.intro (Nat.le_of_ble_eq_true rfl) (And.intro rfl (And.intro (Nat.le_of_ble_eq_true rfl) (And.intro (Nat.le_of_ble_eq_true rfl) (mjY_mono ty (fun q_ u1 ty1 h_ => ?_) (r_subscribe h1 ty h2 h3 h12 h4 (by omega)))))))
              obtain ⟨rfl, f1, w1, ce', x1, l1⟩ := h_
              intro _
              refine mjZ_y rfl rfl 1 _ _ _ _ ty1 ?_
              exact fin u1 ty1 (doK_0 (f1.up (by decide) (by decide)) w1 x1 (by omega) h9 h11 (Nat.le_add_right _ _) (Nat.le_add_right _ _) (by omega))
          · refine mjZ_y rfl rfl 2 _ _ _ _ ty ?_
            refine (And.intro (Nat.le_of_ble_eq_true rfl) (And.intro rfl (And.intro (Nat.le_of_ble_eq_true rfl) (And.intro (Nat.le_of_ble_eq_true rfl) (mjY_mono ty (fun q_ u1 ty1 h_ => ?_) (r_watch h1 ty h2 h3 h12 h4 (by omega)))))))
            obtain ⟨rfl, f1, w1, we', x1, l1⟩ := h_
            intro _
            refine mjZ_y rfl rfl 1 _ _ _ _ ty1 ?_
            exact fin u1 ty1 (doK_0 (f1.up (by decide) (by decide)) w1 x1 (by omega) h9 h11 (Nat.le_add_right _ _) (by omega) (Nat.le_add_right _ _))
        have s60 : mjY mjPP (mjQQ Y) (d + 10) 163 60 [some (.ref 0), some (.int x), some (.int (σ.1 f_cur))] [] σ (fun r u => (∃ z, r = some (.int z)) ∧ doK σ ws ks c qe we ce R (kap (strip ks) + 50 * P) I P u) := by
          refine mjZ_y rfl rfl 4 _ _ _ _ ty ?_
          refine (And.intro (Nat.le_of_ble_eq_true rfl) (And.intro rfl (And.intro (Nat.le_of_ble_eq_true rfl) (And.intro (Nat.le_of_ble_eq_true rfl) (mjY_mono ty (fun q_ u1 ty1 h_ => ?_) (c_error ty h1.2.2.2.1 _ _))))))
          obtain ⟨rfl, o1⟩ := h_
          intro _
          refine mjZ_y rfl rfl 2 _ _ _ _ ty1 ?_
          exact fin u1 ty1 (ans u1 o1)
        refine mjZ_y rfl rfl 3 _ _ _ _ ty ?_
        refine And.intro (fun e => ?_) (fun e => ?_)
        · exact s60
        · have e : ¬ i = 100 := (nn 100 (by decide)).mp e
          refine mjZ_y rfl rfl 3 _ _ _ _ ty ?_
          refine And.intro (fun g => ?_) (fun g => ?_)
          · have g : ¬ i = 101 := (nn 101 (by decide)).mp g
            exact s66 e g
          · exact s60
      · refine mjZ_y rfl rfl 15 _ _ _ _ ty ?_
        refine (And.intro rfl (And.intro (Or.inr ⟨rfl, Or.inr rfl⟩) (And.intro vc (fun ty' => (And.intro rfl (And.intro (Or.inr ⟨rfl, Or.inl rfl⟩) (And.intro vc (fun ty'' => (And.intro rfl (And.intro rfl (And.intro vc (fun ty''' => ?_))))))))))))
        have go : ∀ u : mjS, mjTY u → Fr [] [r_blocked, r_spoilt, r_queued] σ u → u.2.2.1 r_queued = upd (σ.2.2.1 r_queued) c 0 → mjY mjPP (mjQQ Y) (d + 10) 163 51 [some (.ref 0), some (.int x), some (.int (σ.1 f_cur))] [] u (fun r u => (∃ z, r = some (.int z)) ∧ doK σ ws ks c qe we ce R (kap (strip ks) + 50 * P) I P u) := by
          intro u tu fu eu
          have hu : Wd u ws ks [] := h1.fr fu (by decide) (by decide)
          have xu : CX u qe we ce I (G0 G c) := by
            refine h4.mk (fun k _ => fu.1 k (by simp)) (fun g hg => (fu.2.2 g ((by decide : ∀ g ∈ [r_queuedAt, r_queue, r_channelAt, r_channelLen], g ∉ [r_blocked, r_spoilt, r_queued]) g hg)).1) (fun k hk => ?_)
            obtain ⟨a1, a2, -⟩ := h4.1 k hk
            refine ⟨by rw [(fu.2.2 r_inSize (by decide)).1, (fu.2.2 r_opened (by decide)).1]; exact a1, by unfold bnd; rw [(fu.2.2 _ (by decide)).1]; exact a2, ?_, Or.inl (by rw [(fu.2.2 _ (by decide)).1])⟩
            unfold G0
            by_cases z : k = c
            · rw [if_pos z, eu, z]; exact Or.inr ⟨rfl, pk_us (f := σ.2.2.1 r_queued) (k := c) (x := 0)⟩
            · rw [if_neg z, eu, pk_un z]; exact Or.inl ⟨rfl, rfl⟩
          have ht0 := tp_G0 c c h2 I G
          refine mjZ_y rfl rfl 2 _ _ _ _ tu ?_
          refine (And.intro (Nat.le_of_ble_eq_true rfl) (And.intro rfl (And.intro (Nat.le_of_ble_eq_true rfl) (And.intro (Nat.le_of_ble_eq_true rfl) (mjY_mono tu (fun q_ u1 ty1 h_ => ?_) (w_ok hu tu))))))
          obtain ⟨rfl, w1, o1⟩ := h_
          intro _
          refine mjZ_y rfl rfl 1 _ _ _ _ ty1 ?_
          exact fin u1 ty1 (doK_0 ((fu.up (by decide) (by decide)).tr (o1.1.up (by decide) (by decide))) w1 (xu.fr o1.1 (by decide) (by decide)) (by omega) h9 (h11.z c) (Nat.le_add_right _ _) (Nat.le_add_right _ _) (Nat.le_add_right _ _))
        refine go _ ty''' (((Fr.a (h := r_blocked) (by decide)).tr (Fr.a (h := r_spoilt) (by decide))).tr (Fr.a (h := r_queued) (by decide))) ?_
        show mjIu (mjIu (mjIu σ.2.2.1 r_blocked (σ.1 f_cur).toNatClampNeg 1) r_spoilt (σ.1 f_cur).toNatClampNeg 0) r_queued (σ.1 f_cur).toNatClampNeg 0 r_queued = _
        rw [mjIu_self, mjIu_ne (by decide), mjIu_ne (by decide), cc]
    · refine mjZ_y rfl rfl 2 _ _ _ _ ty ?_
      refine (And.intro (Nat.le_of_ble_eq_true rfl) (And.intro rfl (And.intro (Nat.le_of_ble_eq_true rfl) (And.intro (Nat.le_of_ble_eq_true rfl) (mjY_mono ty (fun q_ u1 ty1 h_ => ?_) (w_ok h1 ty))))))
      obtain ⟨rfl, w1, o1⟩ := h_
      intro _
      refine mjZ_y rfl rfl 2 _ _ _ _ ty1 ?_
      refine And.intro rfl (And.intro (Or.inr ⟨rfl, Or.inr rfl⟩) ?_)
      exact ⟨⟨_, rfl⟩, ans u1 o1⟩
  refine mjZ_y rfl rfl 8 _ _ _ _ ty ?_
  refine (And.intro rfl (And.intro (Nat.le_of_ble_eq_true rfl) (And.intro rfl (And.intro rfl (And.intro vc (And.intro (fun a => ?_) (fun a => ?_)))))))
  · exact s26
  · refine mjZ_y rfl rfl 3 _ _ _ _ ty ?_
    refine And.intro (fun b => ?_) (fun b => ?_)
    · exact s26
    · refine mjZ_y rfl rfl 3 _ _ _ _ ty ?_
      refine And.intro (fun e => ?_) (fun e => ?_)
      · exact s26
      · refine mjZ_y rfl rfl 3 _ _ _ _ ty ?_
        refine And.intro (fun g => ?_) (fun g => ?_)
        · exact s26
        · refine mjZ_y rfl rfl 3 _ _ _ _ ty ?_
          refine And.intro (fun k => ?_) (fun k => ?_)
          · exact s26
          · refine mjZ_y rfl rfl 4 _ _ _ _ ty ?_
            refine (And.intro (Nat.le_of_ble_eq_true rfl) (And.intro rfl (And.intro (Nat.le_of_ble_eq_true rfl) (And.intro (Nat.le_of_ble_eq_true rfl) (mjY_mono ty (fun q_ u1 ty1 h_ => ?_) (c_error ty h1.2.2.2.1 _ _))))))
            obtain ⟨rfl, o1⟩ := h_
            intro _
            refine mjZ_y rfl rfl 2 _ _ _ _ ty1 ?_
            exact fin u1 ty1 (ans u1 o1)
set_option maxRecDepth 100000 in
theorem c_within {σ : mjS} {ws : Req} {ks : List KR} {c i qe we ce : Nat} {I : Nat → Nat} {G : Nat → List Req} {P R : Nat} (h : dPre σ ws ks c i qe we ce I G P R) (ty : mjTY σ) (hi : i ≤ 105) {x : Int32} (ex : x = nI i) : mjY mjPP (mjQQ Y) (d + 11) 164 0 (mjL0 3 [.ref 0, .int x]) [] σ (fun r u => (∃ z, r = some (.int z)) ∧ doK σ ws ks c qe we ce R (kap (strip ks) + 50 * P) I P u) := by
  obtain ⟨h1, h2, h3, h4, h5, h6, h7, h8, h9, h10, h11, ⟨h12, h13⟩, ⟨h14, h15, h16⟩, h17, h18, h19⟩ := h
  have h1024 := h1.2.1.2.1
  have r1 := rw_ge ws
  have r4 := cm_rw h12 (by rw [h14]; exact h15)
  have nn : ∀ k : Nat, k < 128 → ((¬ x = nI k) ↔ ¬ i = k) := fun k hk => by rw [ex, nI_eq (by omega) (by omega)]
  have vc : vp_in (σ.1 f_cur) 4 := by rw [h3]; exact vp_in_nI h2 (by decide)
  have cc : (σ.1 f_cur).toNatClampNeg = c := by rw [h3]; exact nI_clamp (by omega)
  have fin : ∀ u, mjTY u → doK σ ws ks c qe we ce R (kap (strip ks) + 50 * P) I P u → mjY mjPP (mjQQ Y) (d + 11) 164 83 [some (.ref 0), some (.int x), some (.int (σ.1 f_cur))] [] u (fun r u => (∃ z, r = some (.int z)) ∧ doK σ ws ks c qe we ce R (kap (strip ks) + 50 * P) I P u) := by
    intro u tu ku
    refine mjZ_y rfl rfl 2 _ _ _ _ tu ?_
    refine And.intro rfl (And.intro (Or.inr ⟨rfl, Or.inl rfl⟩) ?_)
    exact ⟨⟨_, rfl⟩, ku⟩
  have ans : ∀ u, oO σ u → doK σ ws ks c qe we ce R (kap (strip ks) + 50 * P) I P u := fun u o => doK_0 (o.1.up (by decide) (by decide)) (h1.ans o) (h4.fr o.1 (by decide) (by decide)) (by omega) h9 h11 (Nat.le_add_right _ _) (Nat.le_add_right _ _) (Nat.le_add_right _ _)
  have spo : ∀ u, mjTY u → oO σ u → ∀ v, Fr [] [r_spoilt] u v → doK σ ws ks c qe we ce R (kap (strip ks) + 50 * P) I P v := fun u tu o v fv => by
    have fv2 : Fr doF0 doHs σ v := (o.1.up (by decide) (by decide)).tr (fv.up (by decide) (by decide))
    exact doK_0 fv2 ((h1.ans o).fr fv (by decide) (by decide)) ((h4.fr o.1 (by decide) (by decide)).fr fv (by decide) (by decide)) (by omega) h9 h11 (Nat.le_add_right _ _) (Nat.le_add_right _ _) (Nat.le_add_right _ _)
  refine mjZ_y rfl rfl 6 _ _ _ _ ty ?_
  refine (And.intro rfl (And.intro (Nat.le_of_ble_eq_true rfl) (And.intro (fun a => ?_) (fun a => ?_))))
  · have a : ¬ i = 96 := (nn 96 (by decide)).mp a
    refine mjZ_y rfl rfl 3 _ _ _ _ ty ?_
    refine And.intro (fun b => ?_) (fun b => ?_)
    · have b : ¬ i = 100 := (nn 100 (by decide)).mp b
      refine mjZ_y rfl rfl 3 _ _ _ _ ty ?_
      refine And.intro (fun e => ?_) (fun e => ?_)
      · have e : ¬ i = 101 := (nn 101 (by decide)).mp e
        refine mjZ_y rfl rfl 3 _ _ _ _ ty ?_
        refine And.intro (fun g => ?_) (fun g => ?_)
        · have g : ¬ i = 99 := (nn 99 (by decide)).mp g
          refine mjZ_y rfl rfl 3 _ _ _ _ ty ?_
          refine And.intro (fun k => ?_) (fun k => ?_)
          · have k : ¬ i = 97 := (nn 97 (by decide)).mp k
            have s49 : mjY mjPP (mjQQ Y) (d + 11) 164 49 [some (.ref 0), some (.int x), some (.int (σ.1 f_cur))] [] σ (fun r u => (∃ z, r = some (.int z)) ∧ doK σ ws ks c qe we ce R (kap (strip ks) + 50 * P) I P u) := by
              refine mjZ_y rfl rfl 4 _ _ _ _ ty ?_
              refine (And.intro (Nat.le_of_ble_eq_true rfl) (And.intro rfl (And.intro (Nat.le_of_ble_eq_true rfl) (And.intro (Nat.le_of_ble_eq_true rfl) (mjY_mono ty (fun q_ u1 ty1 h_ => ?_) (c_error ty h1.2.2.2.1 _ _))))))
              obtain ⟨rfl, o1⟩ := h_
              intro _
              refine mjZ_y rfl rfl 7 _ _ _ _ ty1 ?_
              refine (And.intro rfl (And.intro (Or.inr ⟨rfl, Or.inr rfl⟩) (And.intro vc (fun ty1' => ?_))))
              exact fin _ ty1' (spo u1 ty1 o1 _ (Fr.a (by decide)))
            have s60 : i ≠ 102 → i ≠ 103 → mjY mjPP (mjQQ Y) (d + 11) 164 60 [some (.ref 0), some (.int x), some (.int (σ.1 f_cur))] [] σ (fun r u => (∃ z, r = some (.int z)) ∧ doK σ ws ks c qe we ce R (kap (strip ks) + 50 * P) I P u) := by
              intro n2 n3
              obtain ⟨-, -, ⟨eQ, hQ2, hQ3⟩, -⟩ := h4.1 c h2
              have h200 : (σ.2.2.1 r_queued (σ.1 f_cur).toNatClampNeg = (Int16.ofInt 200).toInt32) ↔ (G c).length = 200 := by
                rw [cc, eQ]; exact nI_eq (b := 200) (by omega) (by decide)
              refine mjZ_y rfl rfl 6 _ _ _ _ ty ?_
              refine (And.intro rfl (And.intro rfl (And.intro vc (And.intro (fun m => ?_) (fun m => ?_)))))
              · have m : ¬ (G c).length = 200 := fun z => m (h200.mpr z)
                have hg : gQ ws := ⟨h12, h1024, h13, by rw [h14]; exact h15, by rw [h14]; simp only [List.mem_cons, List.not_mem_nil, or_false]; omega, by rw [h14]; exact h16⟩
                have qz := qsz_rw ws
                refine mjZ_y rfl rfl 3 _ _ _ _ ty ?_
                refine (And.intro (Nat.le_of_ble_eq_true rfl) (And.intro rfl (And.intro (Nat.le_of_ble_eq_true rfl) (And.intro (Nat.le_of_ble_eq_true rfl) (mjY_mono ty (fun q_ u1 ty1 h_ => ?_) (c_enqueue h1.2.1 ty h2 h4 (by omega) (by omega) (fun w hw => (h13 w hw).1) h3))))))
                obtain ⟨rfl, f1, x1⟩ := h_
                intro _
                have hu1 : Wd u1 ws ks [] := h1.fr f1 (by decide) (by decide)
                refine mjZ_y rfl rfl 3 _ _ _ _ ty1 ?_
                refine (And.intro (Nat.le_of_ble_eq_true rfl) (And.intro rfl (And.intro (Nat.le_of_ble_eq_true rfl) (And.intro (Nat.le_of_ble_eq_true rfl) (mjY_mono ty1 (fun q_ u2 ty2 h_ => ?_) (w_plain hu1 ty1 _))))))
                obtain ⟨rfl, w2, o2⟩ := h_
                intro _
                refine fin u2 ty2 (doK_0 ((f1.up (by decide) (by decide)).tr (o2.1.up (by decide) (by decide))) w2 (x1.fr o2.1 (by decide) (by decide)) (by rw [tp_Gq c c h2]; omega) h9 (fun k q hq => ?_) (by omega) (Nat.le_add_right _ _) (Nat.le_add_right _ _))
                unfold Gq at hq
                by_cases z : k = c
                · rw [if_pos z] at hq
                  rcases List.mem_append.mp hq with hq | hq
                  · exact h11 k q hq
                  · rw [List.mem_singleton.mp hq]; exact hg
                · rw [if_neg z] at hq; exact h11 k q hq
              · refine mjZ_y rfl rfl 4 _ _ _ _ ty ?_
                refine (And.intro (Nat.le_of_ble_eq_true rfl) (And.intro rfl (And.intro (Nat.le_of_ble_eq_true rfl) (And.intro (Nat.le_of_ble_eq_true rfl) (mjY_mono ty (fun q_ u1 ty1 h_ => ?_) (c_error ty h1.2.2.2.1 _ _))))))
                obtain ⟨rfl, o1⟩ := h_
                intro _
                refine mjZ_y rfl rfl 7 _ _ _ _ ty1 ?_
                refine (And.intro rfl (And.intro (Or.inr ⟨rfl, Or.inr rfl⟩) (And.intro vc (fun ty1' => ?_))))
                exact fin _ ty1' (spo u1 ty1 o1 _ (Fr.a (by decide)))
            refine mjZ_y rfl rfl 3 _ _ _ _ ty ?_
            refine And.intro (fun m => ?_) (fun m => ?_)
            · exact s49
            · have m : ¬ i = 102 := (nn 102 (by decide)).mp m
              refine mjZ_y rfl rfl 3 _ _ _ _ ty ?_
              refine And.intro (fun n => ?_) (fun n => ?_)
              · have n : ¬ i = 103 := (nn 103 (by decide)).mp n
                exact s60 m n
              · exact s49
          · refine mjZ_y rfl rfl 4 _ _ _ _ ty ?_
            refine (And.intro (Nat.le_of_ble_eq_true rfl) (And.intro rfl (And.intro (Nat.le_of_ble_eq_true rfl) (And.intro (Nat.le_of_ble_eq_true rfl) (mjY_mono ty (fun q_ u1 ty1 h_ => ?_) (c_error ty h1.2.2.2.1 _ _))))))
            obtain ⟨rfl, o1⟩ := h_
            intro _
            refine mjZ_y rfl rfl 2 _ _ _ _ ty1 ?_
            exact fin u1 ty1 (ans u1 o1)
        · refine mjZ_y rfl rfl 4 _ _ _ _ ty ?_
          refine (And.intro (Nat.le_of_ble_eq_true rfl) (And.intro rfl (And.intro (Nat.le_of_ble_eq_true rfl) (And.intro (Nat.le_of_ble_eq_true rfl) (mjY_mono ty (fun q_ u1 ty1 h_ => ?_) (c_error ty h1.2.2.2.1 _ _))))))
          obtain ⟨rfl, o1⟩ := h_
          intro _
          refine mjZ_y rfl rfl 2 _ _ _ _ ty1 ?_
          exact fin u1 ty1 (ans u1 o1)
      · refine mjZ_y rfl rfl 3 _ _ _ _ ty ?_
        refine (And.intro (Nat.le_of_ble_eq_true rfl) (And.intro rfl (And.intro (Nat.le_of_ble_eq_true rfl) (And.intro (Nat.le_of_ble_eq_true rfl) (mjY_mono ty (fun q_ u1 ty1 h_ => ?_) (x_endBlock ty h2 h3))))))
        obtain ⟨rfl, eu1⟩ := h_
        intro _
        have f1 : Fr [] ebH σ u1 := by rw [eu1]; exact zrS_fr _ _ _
        have hu1 : Wd u1 ws ks [] := by rw [eu1]; exact h1.zr c
        have x1 : CX u1 qe we ce I (G0 G c) := by rw [eu1]; exact CX_eb h4 c
        have ht0 := tp_G0 c c h2 I G
        refine mjZ_y rfl rfl 2 _ _ _ _ ty1 ?_
        refine (And.intro (Nat.le_of_ble_eq_true rfl) (And.intro rfl (And.intro (Nat.le_of_ble_eq_true rfl) (And.intro (Nat.le_of_ble_eq_true rfl) (mjY_mono ty1 (fun q_ u2 ty2 h_ => ?_) (w_ok hu1 ty1))))))
        obtain ⟨rfl, w2, o2⟩ := h_
        intro _
        refine mjZ_y rfl rfl 1 _ _ _ _ ty2 ?_
        exact fin u2 ty2 (doK_0 ((f1.up (by decide) (by decide)).tr (o2.1.up (by decide) (by decide))) w2 (x1.fr o2.1 (by decide) (by decide)) (by omega) h9 (h11.z c) (Nat.le_add_right _ _) (Nat.le_add_right _ _) (Nat.le_add_right _ _))
    · refine mjZ_y rfl rfl 2 _ _ _ _ ty ?_
      refine (And.intro (Nat.le_of_ble_eq_true rfl) (And.intro rfl (And.intro (Nat.le_of_ble_eq_true rfl) (And.intro (Nat.le_of_ble_eq_true rfl) (mjY_mono ty (fun q_ u1 ty1 h_ => ?_) (r_exec h1 ty h2 h3 h4 h5 h6 h8 h7 h9 (R := R) (by omega) h11))))))
      obtain ⟨rfl, k1⟩ := h_
      intro _
      refine mjZ_y rfl rfl 1 _ _ _ _ ty1 ?_
      exact fin u1 ty1 k1
  · refine mjZ_y rfl rfl 2 _ _ _ _ ty ?_
    refine (And.intro (Nat.le_of_ble_eq_true rfl) (And.intro rfl (And.intro (Nat.le_of_ble_eq_true rfl) (And.intro (Nat.le_of_ble_eq_true rfl) (mjY_mono ty (fun q_ u1 ty1 h_ => ?_) (w_ok h1 ty))))))
    obtain ⟨rfl, w1, o1⟩ := h_
    intro _
    refine mjZ_y rfl rfl 2 _ _ _ _ ty1 ?_
    refine And.intro rfl (And.intro (Or.inr ⟨rfl, Or.inr rfl⟩) ?_)
    exact ⟨⟨_, rfl⟩, ans u1 o1⟩
end ALONE
