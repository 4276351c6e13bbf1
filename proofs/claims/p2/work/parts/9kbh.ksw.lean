/-! Send: the worlds of its loop; a command is performed in it. -/
def LW (s : kS) (nmm : List (List Int32)) (ks : List KC) (b : Nat) (E : List Blk) (p m : Nat) : Prop := (4 * m ≤ s.2.2.2.2.2.2 ∧ 1 ≤ s.2.2.2.2.2.1) ∧ KG nmm (kHd m s) nmm ks ∧ (RSD ks ∧ LJ (skA ks) p ∧ WBe nmm p ∧ p ≤ 10240) ∧ JB s b ∧ (kBY s b (enE E) ∧ s.1 b 3 = 0) ∧ KLg p 0 [] E (skA ks) ∧ (enE E).length + (tmK (skA ks) + 8 * p) ≤ 207584 ∧ CLK s ∧ s.1 0 13 = 0 ∧ ¬ s.1 0 17 = 0
def DW (s : kS) (b p m : Nat) : Prop := (4 * m ≤ s.2.2.2.2.2.2 ∧ 1 ≤ s.2.2.2.2.2.1) ∧ KG [] (kHd m s) [] [] ∧ (CNW s (fun _ => []) (fun _ => []) ∧ ∀ c ∈ CNs, s.1 c 0 = 0) ∧ JB s b ∧ (∃ E T A, (kBY s b (enE E ++ T) ∧ s.1 b 3 = 0) ∧ TORN T ∧ KLg p 0 [] E A ∧ (enE E).length + (tmK A + 8 * p) ≤ 207584) ∧ CLK s ∧ s.1 0 13 = 0 ∧ s.1 0 17 = 0 ∧ p ≤ 10240
/-- so much was read of the input; what is still to be read is paid -/
def RDN (c f : Nat) (x4 : Int32) (s : kS) (I : Nat → List Int32) (Q : Nat → List Req) (p r m : Nat) : Prop := ∃ a0, a0 ≤ (I c).length ∧ (¬ s.1 c 0 = 0 → x4 = nI a0) ∧ (s.1 c 0 = 0 → a0 = 0) ∧ f + sIn I + sQu Q + r ≤ p + a0 ∧ 4 * (f + sIn I) + 16 ≤ m + 4 * a0
/-- send's loop -/
def SLp (c f : Nat) (x4 : Int32) (s : kS) : Prop := (∃ nmm ks b E p m I Q, LW s nmm ks b E p m ∧ RNW s ∧ CNW s I Q ∧ TAP s ∧ RDN c f x4 s I Q p 0 m) ∨ (∃ b p m, DW s b p m ∧ RNW s ∧ TAP s ∧ f ≤ p ∧ 4 * f + 16 ≤ m)
/-- while a request or a block is performed -/
def FW (c f : Nat) (x4 : Int32) (n : Nat) (bl : Bool) (e k r m : Nat) (ws : Req) (u : kS) : Prop := ∃ nmm ks b E A0 ns p I Q, (4 * m ≤ u.2.2.2.2.2.2 ∧ 1 ≤ u.2.2.2.2.2.1) ∧ KO nmm (kHd m u) ws nmm ks ∧ (RSD ks ∧ LJ (skA ks) p ∧ WBe nmm p ∧ p ≤ 10240) ∧ (JB u b ∧ JN b u (enE E ++ pendB bl ns) ∧ n = (enE E).length) ∧ (BMk (u.1 0 13) (u.1 0 14) bl ns ∧ KLg p 0 [] E A0 ∧ KCh p A0 ns (skA ks) ∧ (enE E).length + (encs ns).length + e + (tmK (skA ks) + 8 * p) ≤ 207584 ∧ ns.length ≤ k) ∧ CLK u ∧ (¬ u.1 0 17 = 0) ∧ RNW u ∧ CNW u I Q ∧ TAP u ∧ RDN c f x4 u I Q p r m
/-- what a command of a block finds again behind another -/
def KEP (s u : kS) : Prop := u.1 0 15 = s.1 0 15 ∧ u.1 0 13 = s.1 0 13 ∧ u.2.2.1 53 6 = s.2.2.1 53 6 ∧ u.2.2.1 0 12 = s.2.2.1 0 12 ∧ ∀ rn ∈ payB, s.2.2.1 0 12 = some rn → (∀ c ∈ CNs, ¬ s.2.2.1 c 3 = some rn) → SMb rn s u
section KSW
variable {Y : Nat → MethodName × ByteArray} {d : Nat} {s u : kS} {ws : Req} {c f n e k r m j : Nat} {x4 : Int32} {bl : Bool}
theorem KEP.rf : KEP s s := ⟨rfl, rfl, rfl, rfl, fun _ _ _ _ => SMb.rf⟩
theorem RDN.le {I I' : Nat → List Int32} {Q Q' : Nat → List Req} {p p' r' : Nat} (h : RDN c f x4 s I Q p r m) (hc : c ∈ CNs) (h1 : sIn I' ≤ sIn I) (h2 : sQu Q' + r' + p ≤ sQu Q + r + p') (h3 : ∀ c' ∈ CNs, ¬ c' = c → (I' c').length ≤ (I c').length) (h4 : (I' c = I c ∧ u.1 c 0 = s.1 c 0) ∨ (I' c = [] ∧ u.1 c 0 = 0)) : RDN c f x4 u I' Q' p' r' m := by
  obtain ⟨a0, a1, a2, a2', a3, a4⟩ := h
  rcases h4 with ⟨e1, e2⟩ | ⟨e1, e2⟩
  · exact ⟨a0, by rw [e1]; exact a1, fun y => a2 (by rw [← e2]; exact y), fun y => a2' (by rw [← e2]; exact y), by omega, by omega⟩
  · have o := sC_one (f := fun c => (I' c).length) (g := fun c => (I c).length) hc h3
    have o : sIn I' + (I c).length ≤ sIn I + (I' c).length := o
    rw [e1] at o
    have o : sIn I' + (I c).length ≤ sIn I + 0 := o
    exact ⟨0, Nat.zero_le _, fun y => absurd e2 y, fun _ => rfl, by omega, by omega⟩
theorem RDN.rw_le {I : Nat → List Int32} {Q : Nat → List Req} {p : Nat} (h : RDN c f x4 s I Q p r m) (hc : c ∈ CNs) : r + sQu Q + f ≤ p := by
  obtain ⟨a0, a1, a2, a2', a3, a4⟩ := h
  have o : (I c).length ≤ sIn I := sC_at (f := fun c => (I c).length) hc
  omega
theorem pf_x : ∀ b ∈ [5, 7], (∀ p ∈ [((0, 10) : Nat × Nat), (0, 11), (59, 17), (59, 16)], ¬ p ∈ PFf b) ∧ (∀ p ∈ PFf b, ¬ p.1 = 1) ∧ (∀ p ∈ PFo b, p ∈ OWs ∧ ¬ p.1 = 1) := by decide +kernel
theorem pf_y : ∀ b ∈ [5, 7], ¬ (0, 17) ∈ PFf b ∧ ¬ (0, 15) ∈ PFf b ∧ ¬ (53, 6) ∈ PFf b ∧ ¬ (0, 12) ∈ PFf b := by decide +kernel
/-- a command is performed -/
theorem kS_perf (ty : kTY u) (h : FW c f x4 n bl e k (rw ws + r) m ws u) (hc : c ∈ CNs) (hj : CMD u j) (hq : QC ws j) (hW : ∀ w ∈ ws, WOK w) : kjY kPP (kQQ Y) (d + 11) 27 0 (mjL0 3 [.ref 0, .ref c]) [] u (fun v z => v = none ∧ FW c f x4 n bl e (k + 1) r m ws z ∧ KEP u z) := by
  obtain ⟨nmm, ks, b, E, A0, ns, p, I, Q, hm, g, ⟨h1, h2, h3, h4⟩, ⟨b1, b2, b3⟩, ⟨c1, c2, c3, c4, c5⟩, ck, up_, rn, cn, tp, rd⟩ := h
  have hrw := rd.rw_le hc
  obtain ⟨q1, q2, q3, q4⟩ := hq.ge
  obtain ⟨b11, b12, -⟩ := id b1
  refine kjY_mono ty (fun v z tz _ q => ?_) (kjY_un ty hm.1 hm.2 (kx_perfL (d := d) (kTY_kUn ty) g hj ck.1 ck.2.1 ck.nev h2 h1 h3 (by omega) hW hq.2.2.1 q1 hq.2.2.2.2 q3 b11 b2 b12 c1 c3 c4 rn.1 hc))
  obtain ⟨-, hz, v0, nm', ks', ns', p1, p2, p3, p4, p5, p6, p7, ⟨p8, p8'⟩, ⟨p9, p10⟩, p11, p12, p13⟩ := q
  have tyU := kTY_kUn (S := 4 * m) (T := 1) ty
  obtain ⟨x1, x2, x3⟩ := pf_x b b11
  obtain ⟨y1, y2, y3, y4⟩ := pf_y b b11
  have p12 : Ch true (PFf b) (PFo b) (kHd m u) (kHd m z) := p12
  have fx : FIX u z := FIX.ch (s := kHd m u) (u := kHd m z) tyU p12 x1
  have f17 : z.1 0 17 = u.1 0 17 := (p12.fld tyU (h := 0) (c := 9) (by decide) rfl (by decide) y1).1
  have f15 : z.1 0 15 = u.1 0 15 := (p12.fld tyU (h := 0) (c := 9) (by decide) rfl (by decide) y2).1
  have f6 : z.2.2.1 53 6 = u.2.2.1 53 6 := (p12.fld tyU (h := 53) (c := 3) (by decide) rfl (by decide) y3).2.2
  have f12 : z.2.2.1 0 12 = u.2.2.1 0 12 := (p12.fld tyU (h := 0) (c := 9) (by decide) rfl (by decide) y4).2.2
  have p13 : CQ [] u z := p13
  obtain ⟨I', Q', n1, n2, n3, n4⟩ := cn.cq0 p13
  refine ⟨v0, ⟨nm', ks', b, E, A0, ns', p - rw ws, I', Q', hz, p1.reB (fun w hw => hw), ⟨p2, p3, p4, by omega⟩, ⟨b1.fix fx, p5, b3⟩, ⟨p6, KLg_less (by omega) c2, p7, p8, by omega⟩, ck.fix fx, by rw [f17]; exact up_, rn.same f12 p13.1, n1, TAP.ch (s := kHd m u) (u := kHd m z) tyU g.1.1.1 tp p12 x2 x3, ?_⟩, f15, p11, f6, f12, fun x hx _ y => p13.2.2.2 x hx y⟩
  refine rd.le hc n2 (by omega) (fun c' hc' _ => ?_) ?_
  · rcases n4 c' hc' with ⟨e1, -⟩ | ⟨e1, -⟩
    · rw [e1]; exact Nat.le_refl _
    · rw [e1]; exact Nat.zero_le _
  · rcases n4 c hc with ⟨e1, e2⟩ | y
    · exact Or.inl ⟨e1, e2⟩
    · exact Or.inr y
/-- the next of a block -/
theorem kS_next (ty : kTY u) (h : FW c f x4 n bl e k r m ws u) (h13 : ¬ u.1 0 13 = 0) {rn : Nat} (hrn : rn ∈ payB) (er : u.2.2.1 0 12 = some rn) (hno : ∀ c ∈ CNs, ¬ u.2.2.1 c 3 = some rn) {D E' : List Int32} {q : Req} {jq : Nat} (hq : QC q jq) (hby : kBY u rn (D ++ encR q ++ E')) (h15 : u.1 0 15 = nI D.length) (hc : c ∈ CNs) (e6 : u.2.2.1 53 6 = some (c + 3)) : kjY kPP (kQQ Y) (d + 8) 26 0 (mjL0 2 [.ref 0]) [] u (fun v z => v = none ∧ FW c f x4 n bl e k r m q z ∧ CMD z jq ∧ (z.1 0 15 = nI (D ++ encR q).length ∧ z.1 0 13 = u.1 0 13 ∧ z.2.2.1 53 6 = some (c + 3) ∧ z.2.2.1 0 12 = some rn) ∧ (∀ c ∈ CNs, ¬ z.2.2.1 c 3 = some rn) ∧ kBY z rn (D ++ encR q ++ E')) := by
  obtain ⟨nmm, ks, b, E, A0, ns, p, I, Q, hm, g, h1, ⟨b1, b2, b3⟩, ⟨c1, c2⟩, ck, up_, rw_, cn, tp, rd⟩ := h
  obtain ⟨b11, b12, -⟩ := id b1
  have hb3 : c + 3 ∈ ANb := (CN_8 c hc).2.2
  refine kjY_mono ty (fun v z tz _ y => ?_) (kjY_un ty hm.1 hm.2 (kx_next2 (d := d) (kTY_kUn ty) g.1 h13 hrn er hq.2.2.1 hq.2.2.2.1 hby h15 hb3 e6))
  obtain ⟨-, hz, y⟩ := y
  have tyU := kTY_kUn (S := 4 * m) (T := 1) ty
  have jn := y.jn tyU g.1 b11 hrn ⟨b2.1, b2.2.1⟩
  obtain ⟨⟨v0, p1, p2, p3, p4, p5, p6, p7⟩, -⟩ := y
  have p6 : Ch true nxF rdO (kHd m u) (kHd m z) := p6
  have fx : FIX u z := FIX.ch (s := kHd m u) (u := kHd m z) tyU p6 (by decide)
  have y0 : ¬ ((0, 13) : Nat × Nat) ∈ nxF ∧ ¬ ((0, 14) : Nat × Nat) ∈ nxF ∧ ¬ ((0, 17) : Nat × Nat) ∈ nxF ∧ ¬ ((0, 12) : Nat × Nat) ∈ nxF := by decide
  have f13 : z.1 0 13 = u.1 0 13 := (p6.fld tyU (h := 0) (c := 9) (by decide) rfl (by decide) y0.1).1
  have f14 : z.1 0 14 = u.1 0 14 := (p6.fld tyU (h := 0) (c := 9) (by decide) rfl (by decide) y0.2.1).1
  have f17 : z.1 0 17 = u.1 0 17 := (p6.fld tyU (h := 0) (c := 9) (by decide) rfl (by decide) y0.2.2.1).1
  have f12 : z.2.2.1 0 12 = u.2.2.1 0 12 := (p6.fld tyU (h := 0) (c := 9) (by decide) rfl (by decide) y0.2.2.2).2.2
  have y1 : (∀ p ∈ nxF, (¬ p.1 ∈ OFb) ∧ ∀ c ∈ CNs, (¬ p = (c, 0)) ∧ (¬ p = (c, 3)) ∧ ¬ p = (c, 7)) ∧ (∀ p ∈ rdO, p ∈ OWs ∧ ¬ p.1 ∈ OFb) ∧ (∀ p ∈ nxF, ¬ p.1 = 1) ∧ ∀ p ∈ rdO, p ∈ OWs ∧ ¬ p.1 = 1 := by decide +kernel
  have al : ALS u z := ALS.ch (σ := kHd m u) (u := kHd m z) tyU g.1.1.1 p6 y1.1 y1.2.1
  obtain ⟨I', Q', n1, n2, n3, n4⟩ := cn.cq0 al.cq
  refine ⟨v0, ⟨nmm, ks, b, E, A0, ns, p, I', Q', hz, p1, h1, ⟨b1.fix fx, jn, b3⟩, ⟨by rw [f13, f14]; exact c1, c2⟩, ck.fix fx, by rw [f17]; exact up_, rw_.same f12 (fun c hc => (al.2 c hc).1), n1, TAP.ch (s := kHd m u) (u := kHd m z) tyU g.1.1.1 tp p6 y1.2.2.1 y1.2.2.2, ?_⟩, ⟨cmO_j hq p3, hq.1⟩, ⟨p4, f13, p2, f12.trans er⟩, fun c hc => by rw [(al.2 c hc).1]; exact hno c hc, (p5 rn (P_ok rn hrn).1 _ hby).1⟩
  refine rd.le hc n2 (by omega) (fun c' hc' _ => ?_) ?_
  · rcases n4 c' hc' with ⟨e1, -⟩ | ⟨e1, -⟩
    · rw [e1]; exact Nat.le_refl _
    · rw [e1]; exact Nat.zero_le _
  · rcases n4 c hc with ⟨e1, e2⟩ | y
    · exact Or.inl ⟨e1, e2⟩
    · exact Or.inr y
end KSW
