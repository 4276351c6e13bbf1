/-! A live request is performed: the world behind it. -/
section KPERFL
variable {Y : Nat → MethodName × ByteArray} {d : Nat} {σ u : kS} {B ws nmm nmm' : List (List Int32)} {ks ks' : List KC} {j p : Nat}
/-- the words of a log, counted -/
theorem KLg_B2 {P : Nat} {E : List Blk} {A' : List AK} (h : KLg P 0 [] E A') (hp : P ≤ 10240) (hn : (enE E).length ≤ 210000) : ∃ B, BS B ∧ sl B ≤ (enE E).length + 32 ∧ 6 * B.length ≤ (enE E).length + 18 ∧ [] ∈ B ∧ ∀ now, RBs B now [] E A' := by
  obtain ⟨W, w1, w2, w3⟩ := KLg_RB h (LJ_nil P hp) (by omega)
  have l : (nm 99).length ≤ 16 ∧ (nm 100).length ≤ 16 := by decide +kernel
  have s : sl ([] :: nm 99 :: nm 100 :: W) = 0 + ((nm 99).length + ((nm 100).length + sl W)) := rfl
  have hS : BS ([] :: nm 99 :: nm 100 :: W) := ⟨by omega, by simp only [List.length_cons]; omega, List.mem_cons_self ..⟩
  exact ⟨[] :: nm 99 :: nm 100 :: W, hS, by omega, by simp only [List.length_cons]; omega, List.mem_cons_self .., fun now => w3 _ hS (List.mem_cons_of_mem _ (List.mem_cons_self ..)) (List.mem_cons_of_mem _ (List.mem_cons_of_mem _ (List.mem_cons_self ..))) (fun w hw => List.mem_cons_of_mem _ (List.mem_cons_of_mem _ (List.mem_cons_of_mem _ hw))) now⟩
theorem WB_start {n : Nat} (h1 : sl B ≤ n + 32) (h2 : 6 * B.length ≤ n + 18) (hn : n + 8 * p ≤ 207584) (hd : nmm.Nodup) (hs : ∀ w ∈ nmm, w ∈ B) : WBe nmm p := by
  have s := sl_nds nmm B hd hs
  exact ⟨⟨by omega, by omega⟩, Or.inr (by omega)⟩
/-- what a live request within a block leaves -/
def plP (B : List (List Int32)) (b : Nat) (σ : kS) (ws : List (List Int32)) (A0 : List AK) (L0 : List Int32) (bl : Bool) (e k p : Nat) : kK := fun r u => r = none ∧ ∃ nm' ks' ns', KO B u ws nm' ks' ∧ RSD ks' ∧ LJ (skA ks') p ∧ WBe nm' p ∧ JN b u (L0 ++ pendB bl ns') ∧ BMk (u.1 0 13) (u.1 0 14) bl ns' ∧ KCh p A0 ns' (skA ks') ∧ (L0.length + (encs ns').length + e + (tmK (skA ks') + 8 * p) ≤ 207584 ∧ ns'.length ≤ k) ∧ (u.1 59 17 = σ.1 59 17 ∧ u.2.1 59 16 = σ.2.1 59 16) ∧ u.1 0 13 = σ.1 0 13 ∧ Ch true (PFf b) (PFo b) σ u ∧ CQ [] σ u
theorem BMk_step {rb nb nb' : Int32} {bl : Bool} {ns : List Req} (h : BMk rb nb bl ns) {e : Eff} (h1 : e = none → nb' = nb) (h2 : (¬ e = none) → (¬ rb = 0) → ¬ nb' = 0) : BMk rb nb' bl (ns ++ noteR e) := by
  refine ⟨h.1, fun hb => ?_⟩
  cases e with
  | none => rw [h1 rfl]; show nb = 0 ↔ ns ++ [] = []; rw [List.append_nil]; exact h.2 hb
  | some x =>
    have := h2 (fun z => by cases z) (h.1.mpr hb)
    obtain ⟨A', i, as⟩ := x
    exact ⟨fun z => absurd z this, fun z => by
      have z : ns ++ [nm i :: as] = [] := z
      simp at z⟩
theorem noteR_len (e : Eff) : (noteR e).length ≤ 1 := by
  cases e with
  | none => exact Nat.zero_le _
  | some x => exact Nat.le_refl _
theorem kx_perfL (ty : kTY σ) (g : KO B σ ws nmm ks) (hj : CMD σ j) (h17 : σ.1 59 17 = 0) (hc0 : 0 ≤ σ.2.1 59 16) (hc1 : σ.2.1 59 16 < NEV) (h : LJ (skA ks) p) (hr : RSD ks) (hwb : WBe nmm p) (hrw : rw ws ≤ p) (hW : ∀ w ∈ ws, WOK w) (h1024 : ws.length ≤ 1024) (hw : 1 ≤ ws.length) (htk : tkP j (nI (ws.length - 1))) (hnm : (gw ws 0).map up = tb (txC j)) {b : Nat} (hb : b ∈ [5, 7]) {L0 : List Int32} {bl : Bool} {ns : List Req} (jn : JN b σ (L0 ++ pendB bl ns)) (h10 : σ.2.2.1 0 10 = some b) (hm : BMk (σ.1 0 13) (σ.1 0 14) bl ns) {A0 : List AK} (hk : KCh p A0 ns (skA ks)) {e : Nat} (hcost : L0.length + (encs ns).length + e + (tmK (skA ks) + 8 * p) ≤ 207584) (hbl : BLJ σ) {c : Nat} (hc : c ∈ CNs) :
    kjY kPP (kQQ Y) (d + 11) 27 0 (mjL0 3 [.ref 0, .ref c]) [] σ (plP (LBw nmm (skA ks) ws) b σ ws A0 L0 bl e (ns.length + 1) (p - rw ws)) := by
  obtain ⟨lb1, lb2, lb3⟩ := LB_ok (A := skA ks) hwb.1 hrw hw
  have g2 : rid j = 2 → 2 ≤ ws.length := by
    intro z
    have e : ∀ j, j < 105 → rid j = 2 → (kCmd j).1 = nI 2 := by decide +kernel
    have := tk_lo (e j hj.2 z) (by decide) (by omega) htk
    omega
  have gB := g.reB lb2
  have hJ : JP (LBw nmm (skA ks) ws) (σ.1 59 17) (σ.2.1 59 16) ws ks j := by rw [h17]; exact JP_live h hr lb1 lb3 hw h1024 htk hW hrw hj.2 hc1
  obtain ⟨k1, k2, k3⟩ := K_liveC hr h hrw hW h1024 hj.2 htk hw hnm hc0 g2
  have pe := pf_pend hm (rnC 0 (σ.2.1 59 16) ks j ws)
  have pl := pend_len (bl := bl) (ns := ns ++ noteR (rnC 0 (σ.2.1 59 16) ks j ws))
  have en : (encs (ns ++ noteR (rnC 0 (σ.2.1 59 16) ks j ws))).length = (encs ns).length + (encs (noteR (rnC 0 (σ.2.1 59 16) ks j ws))).length := by rw [encs_app, List.length_append]
  have eR : rnC (σ.1 59 17) (σ.2.1 59 16) ks j ws = rnC 0 (σ.2.1 59 16) ks j ws := by rw [h17]
  have hlen : (L0 ++ pendB bl ns ++ PFn (σ.1 59 17) (σ.1 0 13) (σ.1 0 14) (rnC (σ.1 59 17) (σ.2.1 59 16) ks j ws)).length ≤ 210000 := by
    rw [eR, h17, List.append_assoc, pe, List.length_append]; omega
  refine kjY_mono ty (fun r u tu _ q => ?_) (kx_perform (d := d) ty gB hj hJ hb jn h10 hlen hbl hc)
  obtain ⟨q1, nm', ks', p1, q2, q3, q4, q5, q6, q7, q8, q9, q10⟩ := q
  rw [eR] at q4 q5 q8 q9
  rw [h17] at q8 q9
  rw [h17, List.append_assoc, pe] at q5
  refine ⟨q1, nm', ks', ns ++ noteR (rnC 0 (σ.2.1 59 16) ks j ws), q2, q3, by rw [q4]; exact k2, ?_, q5, ?_, ?_, ?_, q6, q10, q7⟩
  · exact LB_step hwb hrw hw p1 q2.1.2.1.1.nd q2.1.2.1.2
  · rw [q10]
    exact BMk_step hm (fun z => q8 (Or.inl z)) (fun z y => q9 z rfl y)
  · rw [q4]; exact KCh_app (KCh_less (by omega) hk) k1
  · have nl := noteR_len (rnC 0 (σ.2.1 59 16) ks j ws)
    exact ⟨by rw [q4, en]; omega, by rw [List.length_append]; omega⟩
end KPERFL
