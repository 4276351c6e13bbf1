/-! restart. -/
section RESTART
variable {Y : Nat → MethodName × ByteArray} {d : Nat}
theorem blk_t {ns : List Req} (h : ns ≠ []) : blkB true ns = encR [nm 99] ++ (encs ns ++ encR [nm 100]) := by
  unfold blkB pendB
  rw [if_neg h, if_pos rfl, if_neg h, if_pos rfl, List.append_assoc]
theorem blk_tq {ns : List Req} (h : ns ≠ []) : blkB true ns = encs ([nm 99] :: (ns ++ [[nm 100]])) := by
  rw [blk_t h, encs_cons, encs_app, encs_1]
theorem blk_f {ns : List Req} (h : ns.length ≤ 1) (hn : ns ≠ []) : ∃ q, ns = [q] ∧ blkB false ns = encR q := by
  cases ns with
  | nil => exact absurd rfl hn
  | cons q r =>
    cases r with
    | nil => exact ⟨q, rfl, blk_1 q⟩
    | cons _ _ => exact absurd h (by show ¬ _ + 1 + 1 ≤ 1; omega)
set_option maxRecDepth 100000 in
theorem c_restart_step (K : mjK) {P e : Nat} (he : e ≤ 700000) {b : Bool} {ns : List Req} (hne : ns ≠ []) (hb : b = false → ns.length ≤ 1) {B : List AK} {σ : mjS} {ws : Req} {ks : List KR} (hC : LC P (strip ks) ns B) (hL : LI (strip ks) P) {p : Nat} (hp : p ≤ e) (x1 x2 : Int32) (l4 : Option Value) (e2 : x2 = nI p) (ty : mjTY σ) (hW : Wd σ ws ks []) (hT : TB σ) (hr : ¬ σ.1 f_replays = 0) (ee : σ.1 f_diskSize = nI e) (h : AT (σ.2.2.1 r_disk) p e (blkB b ns))
    (hF : p + (blkB b ns).length ≤ e → ∀ u ws' ks' (x1 x2 x4 : Int32), x2 = nI (p + (blkB b ns).length) → mjTY u → Fr rpF rpH σ u → Wd u ws' ks' [] → strip ks' = B → mjY mjPP (mjQQ Y) (d + 11) 189 23 [some (.ref 0), some (.int x1), some (.int x2), some (.int (Int32.ofInt 1)), some (.int x4)] [] u K)
    (hN : e < p + (blkB b ns).length → ∀ u ws' (x4 : Int32), mjTY u → Fr rpF rpH σ u → Wd u ws' ks [] → mjY mjPP (mjQQ Y) (d + 11) 189 64 [some (.ref 0), some (.int x1), some (.int x2), some (.int (Int32.ofInt 0)), some (.int x4)] [] u K) :
    mjY mjPP (mjQQ Y) (d + 11) 189 23 [some (.ref 0), some (.int x1), some (.int x2), some (.int (Int32.ofInt 1)), l4] [] σ K := by
  have no : e < p + (blkB b ns).length → ∀ u ws' (x3 : Int32), mjTY u → Fr rpF rpH σ u → Wd u ws' ks [] → mjY mjPP (mjQQ Y) (d + 11) 189 48 [some (.ref 0), some (.int x1), some (.int x2), some (.int x3), some (.int (-1))] [] u K := by
    intro hn u ws' x3 tu fu hu
    refine mjZ_y rfl rfl 2 _ _ _ _ tu ?_
    refine And.intro (fun a => ?_) (fun a => ?_)
    · refine mjZ_y rfl rfl 2 _ _ _ _ tu ?_
      refine (And.intro (Nat.le_of_ble_eq_true rfl) ?_)
      refine mjZ_y rfl rfl 2 _ _ _ _ tu ?_
      refine And.intro (fun c => ?_) (fun c => ?_)
      · refine mjZ_y rfl rfl 1 _ _ _ _ tu ?_
        refine mjZ_y rfl rfl 2 _ _ _ _ tu ?_
        refine And.intro (fun g => ?_) (fun g => ?_)
        · exact hN hn u ws' _ tu fu hu
        · exact absurd (show Int32.ofInt 0 = 0 from rfl) g
      · exact absurd (show Int32.ofInt 0 = 0 from rfl) c
    · exact absurd (show (-1 : Int32) < 0 by decide) a
  have yes : ∀ {qs : List Req}, RC P (strip ks) qs B → encs qs = blkB b ns → p + (blkB b ns).length ≤ e → ∀ u ws' (x3 x4 : Int32), x4 = nI (p + (blkB b ns).length) → mjTY u → Fr rpF rpH σ u → Wd u ws' ks [] → mjY mjPP (mjQQ Y) (d + 11) 189 48 [some (.ref 0), some (.int x1), some (.int x2), some (.int x3), some (.int x4)] [] u K := by
    intro qs hR hq hf u ws' x3 x4 e4 tu fu hu
    refine mjZ_y rfl rfl 2 _ _ _ _ tu ?_
    refine And.intro (fun a => ?_) (fun a => ?_)
    · exact absurd (show x4 < 0 from a) (by rw [e4]; exact nI_n0 (by omega))
    refine mjZ_y rfl rfl 3 _ _ _ _ tu ?_
    refine (And.intro (Nat.le_of_ble_eq_true rfl) ?_)
    refine mjZ_y rfl rfl 2 _ _ _ _ tu ?_
    refine And.intro (fun c => ?_) (fun c => ?_)
    · exact absurd (show Int32.ofInt 1 = 0 from c) (by decide)
    refine mjZ_y rfl rfl 4 _ _ _ _ tu ?_
    refine (And.intro (Nat.le_of_ble_eq_true rfl) (And.intro rfl (And.intro (Nat.le_of_ble_eq_true rfl) (And.intro (Nat.le_of_ble_eq_true rfl) (mjY_mono tu (fun q_ v tv h_ => ?_) (c_replay (d := d) he hf e2 e4 rfl hR hL (by rw [hq]) tu hu (hT.fr fu (by decide)) (by rw [fu.1 _ (by decide)]; exact hr) (by rw [fu.1 _ (by decide)]; exact ee) (by rw [(fu.2.2 _ (by decide)).1, hq]; exact h)))))))
    obtain ⟨rfl, fv, ws2, ks2, hv, ev⟩ := h_
    intro _
    refine mjZ_y rfl rfl 4 _ _ _ _ tv ?_
    refine (And.intro (Nat.le_of_ble_eq_true rfl) ?_)
    exact hF hf v ws2 ks2 _ _ _ e4 tv (fu.tr fv) hv ev
  refine mjZ_y rfl rfl 2 _ _ _ _ ty ?_
  refine And.intro (fun g => ?_) (fun g => ?_)
  · exact absurd (show Int32.ofInt 1 = 0 from g) (by decide)
  cases b with
  | false =>
    obtain ⟨q, rfl, eb⟩ := blk_f (hb rfl) hne
    have hC2 := hC
    obtain ⟨D, s1, s2, s3⟩ := hC2
    obtain ⟨i, hq, lg⟩ := LSt_ok s1
    obtain ⟨m1, m2⟩ := lg_mx lg
    have hi := hq.2.2.1
    have hR : RC P (strip ks) [q] B := LC_RC (T := []) rfl hC
    rw [eb] at h hF hN no yes
    refine mjZ_y rfl rfl 3 _ _ _ _ ty ?_
    refine (And.intro (Nat.le_of_ble_eq_true rfl) (And.intro rfl (And.intro (Nat.le_of_ble_eq_true rfl) (And.intro (Nat.le_of_ble_eq_true rfl) (mjY_mono ty (fun q_ u tu h_ => ?_) (c_logAt0 (d := d + 5) hW.2.1 ty hT hp he ee hq h e2))))))
    obtain ⟨fu, k⟩ := h_
    intro _
    have fu2 : Fr rpF rpH σ u := fu.up (by decide) (by decide)
    rcases k with ⟨k1, rfl, k3, k4⟩ | ⟨k1, rfl, ws', k4⟩
    · refine mjZ_y rfl rfl 1 _ _ _ _ tu ?_
      refine (And.intro (Nat.le_of_ble_eq_true rfl) ?_)
      refine mjZ_y rfl rfl 2 _ _ _ _ tu ?_
      refine And.intro (fun r => ?_) (fun r => ?_)
      · exact absurd (show nI (p + (encR q).length) < 0 from r) (nI_n0 (by omega))
      refine mjZ_y rfl rfl 4 _ _ _ _ tu ?_
      refine (And.intro rfl (And.intro (fun o => ?_) (fun o => ?_)))
      · refine mjZ_y rfl rfl 2 _ _ _ _ tu ?_
        refine And.intro (fun r2 => ?_) (fun r2 => ?_)
        · exact absurd (show nI (p + (encR q).length) < 0 from r2) (nI_n0 (by omega))
        refine mjZ_y rfl rfl 4 _ _ _ _ tu ?_
        refine (And.intro rfl (And.intro (fun o2 => ?_) (fun o2 => ?_)))
        · exact yes hR (encs_1 q) k1 u q _ _ rfl tu fu2 (hW.la fu k4)
        · exact absurd (fun y => m2 ((nI_eq (a := i) (b := 100) (by omega) (by decide)).mp (k3.symm.trans y))) o2
      · exact absurd (fun y => m1 ((nI_eq (a := i) (b := 99) (by omega) (by decide)).mp (k3.symm.trans y))) o
    · refine mjZ_y rfl rfl 1 _ _ _ _ tu ?_
      refine (And.intro (Nat.le_of_ble_eq_true rfl) ?_)
      refine mjZ_y rfl rfl 2 _ _ _ _ tu ?_
      refine And.intro (fun r => ?_) (fun r => ?_)
      · refine mjZ_y rfl rfl 2 _ _ _ _ tu ?_
        refine And.intro (fun r2 => ?_) (fun r2 => ?_)
        · exact no k1 u ws' _ tu fu2 (hW.la fu k4)
        · exact absurd (show (-1 : Int32) < 0 by decide) r2
      · exact absurd (show (-1 : Int32) < 0 by decide) r
  | true =>
    have hR : RC P (strip ks) ([nm 99] :: (ns ++ [[nm 100]])) B := Or.inl ⟨Or.inl rfl, LC_RC (T := [[nm 100]]) (Or.inl ⟨Or.inr rfl, rfl⟩) hC⟩
    have hq := blk_tq hne
    have hlen : (blkB true ns).length = (encR [nm 99]).length + (encs ns ++ encR [nm 100]).length := by rw [blk_t hne, List.length_append]
    have h2 := h
    rw [blk_t hne] at h2
    refine mjZ_y rfl rfl 3 _ _ _ _ ty ?_
    refine (And.intro (Nat.le_of_ble_eq_true rfl) (And.intro rfl (And.intro (Nat.le_of_ble_eq_true rfl) (And.intro (Nat.le_of_ble_eq_true rfl) (mjY_mono ty (fun q_ u tu h_ => ?_) (c_logAt0 (d := d + 5) hW.2.1 ty hT hp he ee MU_ok h2.l e2))))))
    obtain ⟨fu, k⟩ := h_
    intro _
    have fu2 : Fr rpF rpH σ u := fu.up (by decide) (by decide)
    rcases k with ⟨k1, rfl, k3, k4⟩ | ⟨k1, rfl, ws', k4⟩
    · refine mjZ_y rfl rfl 1 _ _ _ _ tu ?_
      refine (And.intro (Nat.le_of_ble_eq_true rfl) ?_)
      refine mjZ_y rfl rfl 2 _ _ _ _ tu ?_
      refine And.intro (fun r => ?_) (fun r => ?_)
      · exact absurd (show nI (p + (encR [nm 99]).length) < 0 from r) (nI_n0 (by omega))
      refine mjZ_y rfl rfl 4 _ _ _ _ tu ?_
      refine (And.intro rfl (And.intro (fun o => ?_) (fun o => ?_)))
      · exact absurd (show u.1 f_logCommand = nI 99 from k3) o
      · refine mjZ_y rfl rfl 3 _ _ _ _ tu ?_
        refine (And.intro (Nat.le_of_ble_eq_true rfl) (And.intro rfl (And.intro (Nat.le_of_ble_eq_true rfl) (And.intro (Nat.le_of_ble_eq_true rfl) (mjY_mono tu (fun q_ v tv h_ => ?_) (c_blockEnd (d := d + 4) k4 tu (hT.fr fu (by decide)) k1 he (by rw [fu.1 _ (by decide)]; exact ee) (LC_ok hC) (by rw [(fu.2.2 _ (by decide)).1]; exact h2.r) rfl))))))
        obtain ⟨fv, ⟨ws2, av⟩, k⟩ := h_
        intro _
        have fv2 : Fr rpF rpH σ v := fu2.tr (fv.up (by decide) (by decide))
        have hv := (hW.la fu k4).la fv av
        rcases k with ⟨j1, rfl⟩ | ⟨j1, rfl⟩
        · refine mjZ_y rfl rfl 2 _ _ _ _ tv ?_
          refine (And.intro (Nat.le_of_ble_eq_true rfl) ?_)
          exact yes hR hq.symm (by omega) v ws2 _ _ (by rw [hlen, Nat.add_assoc]) tv fv2 hv
        · refine mjZ_y rfl rfl 2 _ _ _ _ tv ?_
          refine (And.intro (Nat.le_of_ble_eq_true rfl) ?_)
          exact no (by omega) v ws2 _ tv fv2 hv
    · refine mjZ_y rfl rfl 1 _ _ _ _ tu ?_
      refine (And.intro (Nat.le_of_ble_eq_true rfl) ?_)
      refine mjZ_y rfl rfl 2 _ _ _ _ tu ?_
      refine And.intro (fun r => ?_) (fun r => ?_)
      · refine mjZ_y rfl rfl 2 _ _ _ _ tu ?_
        refine And.intro (fun r2 => ?_) (fun r2 => ?_)
        · exact no (by omega) u ws' _ tu fu2 (hW.la fu k4)
        · exact absurd (show (-1 : Int32) < 0 by decide) r2
      · exact absurd (show (-1 : Int32) < 0 by decide) r
set_option maxRecDepth 100000 in
/-- nothing more stands there -/
theorem c_restart_stop (K : mjK) {e : Nat} (he : e ≤ 700000) {σ : mjS} {ws : Req} {ks : List KR} (x1 x2 : Int32) (l4 : Option Value) (e2 : x2 = nI e) (ty : mjTY σ) (hW : Wd σ ws ks []) (hT : TB σ) (ee : σ.1 f_diskSize = nI e)
    (hN : ∀ u ws' (x4 : Int32), mjTY u → Fr rpF rpH σ u → Wd u ws' ks [] → mjY mjPP (mjQQ Y) (d + 11) 189 64 [some (.ref 0), some (.int x1), some (.int x2), some (.int (Int32.ofInt 0)), some (.int x4)] [] u K) :
    mjY mjPP (mjQQ Y) (d + 11) 189 23 [some (.ref 0), some (.int x1), some (.int x2), some (.int (Int32.ofInt 1)), l4] [] σ K := by
  refine mjZ_y rfl rfl 2 _ _ _ _ ty ?_
  refine And.intro (fun g => ?_) (fun g => ?_)
  · exact absurd (show Int32.ofInt 1 = 0 from g) (by decide)
  have hl : 1 ≤ (encR [nm 100]).length := by rw [encR_l]; omega
  refine mjZ_y rfl rfl 3 _ _ _ _ ty ?_
  refine (And.intro (Nat.le_of_ble_eq_true rfl) (And.intro rfl (And.intro (Nat.le_of_ble_eq_true rfl) (And.intro (Nat.le_of_ble_eq_true rfl) (mjY_mono ty (fun q_ u tu h_ => ?_) (c_logAt0 (d := d + 5) hW.2.1 ty hT (Nat.le_refl e) he ee EX_ok AT.end e2))))))
  obtain ⟨fu, k⟩ := h_
  intro _
  have fu2 : Fr rpF rpH σ u := fu.up (by decide) (by decide)
  rcases k with ⟨k1, -⟩ | ⟨k1, rfl, ws', k4⟩
  · exact absurd k1 (by omega)
  · refine mjZ_y rfl rfl 1 _ _ _ _ tu ?_
    refine (And.intro (Nat.le_of_ble_eq_true rfl) ?_)
    refine mjZ_y rfl rfl 2 _ _ _ _ tu ?_
    refine And.intro (fun r => ?_) (fun r => ?_)
    · refine mjZ_y rfl rfl 2 _ _ _ _ tu ?_
      refine And.intro (fun r2 => ?_) (fun r2 => ?_)
      · refine mjZ_y rfl rfl 2 _ _ _ _ tu ?_
        refine And.intro (fun a => ?_) (fun a => ?_)
        · refine mjZ_y rfl rfl 2 _ _ _ _ tu ?_
          refine (And.intro (Nat.le_of_ble_eq_true rfl) ?_)
          refine mjZ_y rfl rfl 2 _ _ _ _ tu ?_
          refine And.intro (fun c => ?_) (fun c => ?_)
          · refine mjZ_y rfl rfl 1 _ _ _ _ tu ?_
            refine mjZ_y rfl rfl 2 _ _ _ _ tu ?_
            refine And.intro (fun g2 => ?_) (fun g2 => ?_)
            · exact hN u ws' _ tu fu2 (hW.la fu k4)
            · exact absurd (show Int32.ofInt 0 = 0 from rfl) g2
          · exact absurd (show Int32.ofInt 0 = 0 from rfl) c
        · exact absurd (show (-1 : Int32) < 0 by decide) a
      · exact absurd (show (-1 : Int32) < 0 by decide) r2
    · exact absurd (show (-1 : Int32) < 0 by decide) r
set_option maxRecDepth 100000 in
/-- the blocks, one behind another, and the last, whole or torn -/
theorem c_restart_loop (K : mjK) {P e : Nat} (he : e ≤ 700000) {b : Bool} {ns : List Req} (hb : b = false → ns.length ≤ 1) {A B : List AK} (hC : LC P A ns B) : ∀ (E : List Blk) (p : Nat) (σ : mjS) (ws : Req) (ks : List KR) (x1 x2 : Int32) (l4 : Option Value), LG P p (strip ks) E A → LI (strip ks) P → p + (enE E).length ≤ e → e ≤ p + (enE E).length + (blkB b ns).length → x2 = nI p → mjTY σ → Wd σ ws ks [] → TB σ → ¬ σ.1 f_replays = 0 → σ.1 f_diskSize = nI e → AT (σ.2.2.1 r_disk) p e (enE E ++ blkB b ns) →
    (∀ u ws' ks' (x1 x2 x4 : Int32), mjTY u → Fr rpF rpH σ u → Wd u ws' ks' [] → ((strip ks' = A ∧ x2 = nI (p + (enE E).length)) ∨ (strip ks' = B ∧ ns ≠ [] ∧ e = p + (enE E).length + (blkB b ns).length ∧ x2 = nI e)) → mjY mjPP (mjQQ Y) (d + 11) 189 64 [some (.ref 0), some (.int x1), some (.int x2), some (.int (Int32.ofInt 0)), some (.int x4)] [] u K) →
    mjY mjPP (mjQQ Y) (d + 11) 189 23 [some (.ref 0), some (.int x1), some (.int x2), some (.int (Int32.ofInt 1)), l4] [] σ K := by
  intro E
  induction E with
  | nil =>
    intro p σ ws ks x1 x2 l4 hG hL h1 h2 e2 ty hW hT hr ee h hK
    have hG : A = strip ks := hG
    have h1 : p + 0 ≤ e := h1
    have h2 : e ≤ p + 0 + (blkB b ns).length := h2
    have h : AT (σ.2.2.1 r_disk) p e (blkB b ns) := h
    have h0 : (enE []).length = 0 := rfl
    by_cases z : ns = []
    · have eb : (blkB b ns).length = 0 := by rw [z]; unfold blkB; rw [if_pos rfl]; rfl
      have ep : p = e := by omega
      refine c_restart_stop K he x1 x2 l4 (by rw [← ep]; exact e2) ty hW hT ee (fun u ws' x4 tu fu hu => ?_)
      exact hK u ws' ks _ _ _ tu fu hu (Or.inl ⟨hG.symm, e2⟩)
    · refine c_restart_step K he z hb (by rw [← hG]; exact hC) hL (by omega) x1 x2 l4 e2 ty hW hT hr ee h (fun hf u ws' ks' x1' x2' x4' e2' tu fu hu ek => ?_) (fun _ u ws' x4 tu fu hu => hK u ws' ks _ _ _ tu fu hu (Or.inl ⟨hG.symm, e2⟩))
      have ee2 : e = p + (blkB b ns).length := by omega
      rw [← ee2] at e2'
      refine c_restart_stop K he x1' x2' _ e2' tu hu (hT.fr fu (by decide)) (by rw [fu.1 _ (by decide)]; exact ee) (fun v ws2 x4 tv fv hv => ?_)
      exact hK v ws2 ks' _ _ _ tv (fu.tr fv) hv (Or.inr ⟨ek, z, by omega, e2'⟩)
  | cons x r ih =>
    intro p σ ws ks x1 x2 l4 hG hL h1 h2 e2 ty hW hT hr ee h hK
    obtain ⟨g1, g2, D, g3, g5, g4⟩ := hG
    have hl : (enE (x :: r)).length = (blkB x.1 x.2).length + (enE r).length := by
      show (blkB x.1 x.2 ++ enE r).length = _; rw [List.length_append]
    have h : AT (σ.2.2.1 r_disk) p e ((blkB x.1 x.2 ++ enE r) ++ blkB b ns) := h
    rw [List.append_assoc] at h
    refine c_restart_step K he g1 g2 g3 hL (by omega) x1 x2 l4 e2 ty hW hT hr ee h.l (fun hf u ws' ks' x1' x2' x4' e2' tu fu hu ek => ?_) (fun hn => absurd hn (by omega))
    refine ih (p + (blkB x.1 x.2).length) u ws' ks' x1' x2' _ (by rw [ek]; exact g4) (by rw [ek]; exact LC_LI g3 hL) (by omega) (by omega) e2' tu hu (hT.fr fu (by decide)) (by rw [fu.1 _ (by decide)]; exact hr) (by rw [fu.1 _ (by decide)]; exact ee) (by rw [(fu.2.2 _ (by decide)).1]; exact h.r) (fun v ws2 ks2 y1 y2 y4 tv fv hv kk => ?_)
    refine hK v ws2 ks2 _ _ _ tv (fu.tr fv) hv ?_
    rw [hl, ← Nat.add_assoc]; exact kk
theorem AT_of {b : Nat → Int32} {D L : List Int32} {n : Nat} (h : wd b 0 D.length = D) (hD : D = L.take n) : AT b 0 D.length L := by
  intro i x hx hi
  have e : D[i]? = some (b (0 + i)) := by rw [← h, wd_get (by omega)]
  have e2 : D[i]? = some x := by
    have hi2 : i < (L.take n).length := by rw [← hD]; omega
    rw [hD, List.getElem?_take, if_pos (by rw [List.length_take] at hi2; omega)]; exact hx
  exact Option.some.inj (e.symm.trans e2)
set_option maxRecDepth 100000 in
theorem g_restart {σ : mjS} {bud : Nat} (h : GI σ bud) (ty : mjTY σ) : mjY mjPP (mjQQ Y) (d + 14) 189 0 (mjL0 5 [.ref 0]) [] σ (gK bud) := by
  refine mjZ_y rfl rfl 3 _ _ _ _ ty ?_
  refine (And.intro rfl (And.intro (Or.inl rfl) (fun ty' => ?_)))
  have go : ∀ u : mjS, mjTY u → u = (upd σ.1 f_thrownCode 0, σ.2) → mjY mjPP (mjQQ Y) (d + 14) 189 3 [some (.ref 0), none, none, none, none] [] u (gK bud) := by
    intro u tu eu
    have hu : GI u bud := h.th (by rw [eu]; exact Fr.i (by decide))
    refine mjZ_y rfl rfl 3 _ _ _ _ tu ?_
    refine (And.intro rfl (And.intro (fun q => ?_) (fun q => ?_)))
    · have q : u.1 f_up = 0 := q
      obtain ⟨ws, ks, l, qe, we, ce, I, G, P, t, g1, g2, ⟨t1, t2, t3, t4, t5, t6⟩, ⟨eT, g3⟩, g4, g5⟩ := hu
      obtain ⟨⟨rfl, rfl⟩, E, A, b, ns, n, B, d1, d2, d3, d4, d5, d6, d7, d8⟩ : (ks = [] ∧ l = []) ∧ HD u P := by
        rcases g4 with ⟨a, -⟩ | ⟨-, a, c⟩
        · exact absurd q a
        · exact ⟨a, c⟩
      refine mjZ_y rfl rfl 15 _ _ _ _ tu ?_
      refine (And.intro rfl (And.intro (Or.inr ⟨rfl, Or.inr rfl⟩) (fun tu' => (And.intro rfl (And.intro (Or.inl rfl) (fun tu'' => (And.intro rfl (And.intro (Or.inr ⟨rfl, Or.inr rfl⟩) (fun tu''' => (And.intro (Nat.le_of_ble_eq_true rfl) (And.intro (Nat.le_of_ble_eq_true rfl) (And.intro (Nat.le_of_ble_eq_true rfl) ?_))))))))))))
      have go2 : ∀ v : mjS, mjTY v → Fr [f_up, f_burning, f_replays] [] u v → v.1 f_up = nI 1 → v.1 f_burning = -1 → v.1 f_replays = nI 1 → mjY mjPP (mjQQ Y) (d + 14) 189 23 [some (.ref 0), some (.int (Int32.ofInt 0)), some (.int (Int32.ofInt 0)), some (.int (Int32.ofInt 1)), none] [] v (gK bud) := by
        intro v tv fv v1 v2 v3
        have dv := d1.fr fv (by decide) (by decide)
        obtain ⟨D, hD⟩ : ∃ D, D = enE E ++ (blkB b ns).take n := ⟨_, rfl⟩
        rw [← hD] at dv
        have hl : D.length = (enE E).length + min n (blkB b ns).length := by rw [hD, List.length_append, List.length_take]
        have hat : AT (v.2.2.1 r_disk) 0 D.length (enE E ++ blkB b ns) := by
          refine AT_of (n := (enE E).length + n) dv.2.2 ?_
          have e1 : (enE E ++ blkB b ns).take ((enE E).length + n) = enE E ++ (blkB b ns).take n := by rw [List.take_append, List.take_of_length_le (Nat.le_add_right _ _), Nat.add_sub_cancel_left]
          rw [hD, e1]
        have hL0 : LI (strip []) P := LI_nil P (by have := d3.2.2.1; omega)
        refine c_restart_loop (d := d + 3) _ dv.2.1 d6 d4 E 0 v ws [] _ _ _ d2 hL0 (by omega) (by omega) rfl tv (g1.fr fv (by decide) (by decide)) (t1.fr fv (by decide)) (by rw [v3]; decide) dv.1 hat (fun w ws' ks' x1 x2 x4 tw fw hw kk => ?_)
        refine mjZ_y rfl rfl 6 _ _ _ _ tw ?_
        refine (And.intro rfl (And.intro (Or.inl rfl) (fun tw' => (And.intro rfl (And.intro (Or.inr ⟨rfl, Or.inl rfl⟩) (fun tw'' => ?_))))))
        have go3 : ∀ z : mjS, mjTY z → Fr [f_diskSize, f_replays] [] w z → z.1 f_diskSize = x2 → z.1 f_replays = 0 → mjY mjPP (mjQQ Y) (d + 14) 189 70 [some (.ref 0), some (.int x1), some (.int x2), some (.int (Int32.ofInt 0)), some (.int x4)] [] z (gK bud) := by
          intro z tz fz z1 z2
          have fa : Fr (f_up :: f_burning :: f_replays :: f_diskSize :: rpF) rpH u z := ((fv.up (by decide) (by decide)).tr (fw.up (by decide) (by decide))).tr (fz.up (by decide) (by decide))
          have upz : ¬ z.1 f_up = 0 := by rw [fz.1 _ (by decide), fw.1 _ (by decide), v1]; decide
          have er : z.2.2.1 r_disk = v.2.2.1 r_disk := by rw [(fz.2.2 _ (by decide)).1, (fw.2.2 _ (by decide)).1]
          have hz : GI z bud := by
            have bu : BU z := Or.inl (by rw [fz.1 _ (by decide), fw.1 _ (by decide)]; exact v2)
            have hHI : HI z (strip ks') P := by
              rcases kk with ⟨k1, k2⟩ | ⟨k1, k2, k3, k4⟩
              · have k2 : x2 = nI (enE E).length := by rw [k2, Nat.zero_add]
                have c := DKs_cut (u := z) dv (by omega : (enE E).length ≤ D.length) (by rw [z1]; exact k2) er
                rw [hD, List.take_append_of_le_length (Nat.le_refl _), List.take_length] at c
                rw [k1]
                exact ⟨E, c, d2, d3, d7⟩
              · have en : min n (blkB b ns).length = (blkB b ns).length := by omega
                have c := DKs_cut (u := z) dv (Nat.le_refl D.length) (by rw [z1]; exact k4) er
                rw [List.take_length, hD, List.take_of_length_le (by omega : (blkB b ns).length ≤ n)] at c
                rw [k1]
                have e1 : enE (E ++ [(b, ns)]) = enE E ++ blkB b ns := by
                  rw [enE_app]; show enE E ++ (blkB b ns ++ []) = _; rw [List.append_nil]
                refine ⟨E ++ [(b, ns)], by rw [e1]; exact c, LG_app d2 ⟨k2, d6, B, d4, by show _ + (blkB b ns).length + _ ≤ _; omega, rfl⟩, d5, ?_⟩
                rw [e1, List.length_append]; omega
            exact ⟨ws', ks', [], qe, we, ce, I, G, P, t, hw.fr fz (by decide) (by decide), g2.fr fa (by decide) (by decide), ⟨t1.fr fa (by decide), z2, by rw [fa.1 _ (by decide)]; exact t3, by rw [fa.2.1 _ (by decide)]; exact t4, bu, t6⟩, ⟨by rw [fa.1 _ (by decide)]; exact eT, g3⟩, Or.inl ⟨upz, hHI⟩, g5⟩
          refine mjZ_y rfl rfl 2 _ _ _ _ tz ?_
          refine (And.intro (Nat.le_of_ble_eq_true rfl) (And.intro rfl (And.intro (Nat.le_of_ble_eq_true rfl) (And.intro (Nat.le_of_ble_eq_true rfl) (mjY_mono tz (fun q_ y tyy h_ => ?_) (g_expire hz tz upz))))))
          obtain ⟨⟨x, rfl⟩, ky⟩ := h_
          intro _
          refine mjZ_y rfl rfl 3 _ _ _ _ tyy ?_
          refine And.intro rfl (And.intro (Or.inl rfl) ?_)
          exact ⟨⟨_, rfl⟩, ky⟩
        refine go3 _ tw'' ((Fr.i (k := f_diskSize) (by decide)).tr (Fr.i (k := f_replays) (by decide))) ?_ (pk_us (f := upd w.1 f_diskSize x2) (k := f_replays) (x := 0))
        show upd (upd w.1 f_diskSize x2) f_replays 0 f_diskSize = _
        rw [pk_un (by decide)]; exact pk_us (f := w.1) (k := f_diskSize) (x := x2)
      refine go2 _ tu''' (((Fr.i (k := f_up) (by decide)).tr (Fr.i (k := f_burning) (by decide))).tr (Fr.i (k := f_replays) (by decide))) ?_ ?_ (pk_us (f := upd (upd u.1 f_up 1) f_burning (-1)) (k := f_replays) (x := 1))
      · show upd (upd (upd u.1 f_up 1) f_burning (-1)) f_replays 1 f_up = _
        rw [pk_un (by decide), pk_un (by decide)]; exact pk_us (f := u.1) (k := f_up) (x := 1)
      · show upd (upd (upd u.1 f_up 1) f_burning (-1)) f_replays 1 f_burning = _
        rw [pk_un (by decide)]; exact pk_us (f := upd u.1 f_up 1) (k := f_burning) (x := -1)
    · refine mjZ_y rfl rfl 2 _ _ _ _ tu ?_
      refine And.intro rfl (And.intro (Or.inl rfl) ?_)
      exact ⟨⟨_, rfl⟩, hu⟩
  exact go _ ty' rfl
end RESTART
