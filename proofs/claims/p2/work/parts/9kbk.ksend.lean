/-! Send: its loop. -/
/-- all of the loop's state that stays in one world -/
def INu (f : Nat) (s : kS) : Prop := ∃ nmm ks b E p m I Q t, LW s nmm ks b E p m ∧ RNW s ∧ CNW s I Q ∧ (kBY s 1 t ∧ s.1 1 3 = 0) ∧ f + t.length + sIn I + sQu Q ≤ p ∧ 4 * (f + t.length + sIn I) + 16 ≤ m
def INd (f : Nat) (s : kS) : Prop := ∃ b p m t, DW s b p m ∧ RNW s ∧ (kBY s 1 t ∧ s.1 1 3 = 0) ∧ f + t.length ≤ p ∧ 4 * (f + t.length) + 16 ≤ m
/-- the class between two calls: so many bytes may still be fed -/
def INV (f : Nat) (s : kS) : Prop := INu f s ∨ INd f s
/-- what may change between two requests -/
abbrev LWh (fs : List (Nat × Nat)) : Prop := ∀ p ∈ fs, (¬ p = (0, 10)) ∧ (¬ p = (0, 11)) ∧ (¬ p = (0, 12)) ∧ (¬ p = (0, 13)) ∧ (¬ p = (0, 17)) ∧ (¬ p = (59, 17)) ∧ (¬ p = (59, 16)) ∧ (¬ p.1 = 5) ∧ ¬ p.1 = 7
abbrev LWo (os : List (Nat × Nat)) : Prop := ∀ p ∈ os, p ∈ OWs ∧ (¬ p.1 = 5) ∧ ¬ p.1 = 7
section KSEND
variable {Y : Nat → MethodName × ByteArray} {d : Nat} {s u : kS} {ws : Req} {c f m : Nat}
theorem FW.rn {x4 : Int32} {n e k r : Nat} {bl : Bool} (h : FW c f x4 n bl e k r m ws u) : RNW u := by
  obtain ⟨nmm, ks, b, E, A0, ns, p, I, Q, -, -, -, -, -, -, -, h, -⟩ := h
  exact h
theorem RNW.no (h : RNW u) {rn : Nat} (e : u.2.2.1 0 12 = some rn) : ∀ c ∈ CNs, ¬ u.2.2.1 c 3 = some rn := by
  obtain ⟨-, rn', h1, h2, h3⟩ := h
  rw [h2] at e
  rw [← Option.some.inj e]; exact h3
theorem LW.ch {nmm : List (List Int32)} {ks : List KC} {b p : Nat} {E : List Blk} (ty : kTY s) (h : LW s nmm ks b E p m) (hz : 4 * m ≤ u.2.2.2.2.2.2 ∧ 1 ≤ u.2.2.2.2.2.1) (g : KG nmm (kHd m u) nmm ks) {vs : Bool} {fs os : List (Nat × Nat)} (ch : Ch vs fs os (kHd m s) (kHd m u)) (hf : LWh fs) (ho : LWo os) : LW u nmm ks b E p m := by
  obtain ⟨hm, g0, r1, jb, ⟨kb1, kb2⟩, kl, co, ck, z13, up_⟩ := h
  have tyU := kTY_kUn (S := 4 * m) (T := 1) ty
  have hb := jb.1
  have hb57 : b = 5 ∨ b = 7 := by simpa using hb
  have nb : ∀ p ∈ fs, ¬ p.1 = b := fun p hp => by
    rcases hb57 with e | e
    · rw [e]; exact (hf p hp).2.2.2.2.2.2.2.1
    · rw [e]; exact (hf p hp).2.2.2.2.2.2.2.2
  have nbo : ∀ p ∈ os, p ∈ OWs ∧ ¬ p.1 = b := fun p hp => by
    rcases hb57 with e | e
    · rw [e]; exact ⟨(ho p hp).1, (ho p hp).2.1⟩
    · rw [e]; exact ⟨(ho p hp).1, (ho p hp).2.2⟩
  have f0 := fun x (hx : ¬ (0, x) ∈ fs) => ch.fld tyU (h := 0) (c := 9) (x := x) (by decide) rfl (by decide) hx
  have f7 := ch.fld tyU (h := 59) (c := 4) (x := 17) (by decide) rfl (by decide) (fun z => (hf _ z).2.2.2.2.2.1 rfl)
  have f6 := ch.fld tyU (h := 59) (c := 4) (x := 16) (by decide) rfl (by decide) (fun z => (hf _ z).2.2.2.2.2.2.1 rfl)
  have fx : FIX s u := ⟨(f0 10 (fun z => (hf _ z).1 rfl)).2.2, (f0 11 (fun z => (hf _ z).2.1 rfl)).2.2, f7.1, f6.2.1⟩
  have k0 : b < 76 ∧ (kd0 b).1 = 0 := by rcases hb57 with e | e <;> rw [e] <;> decide
  have kbz : kBY (kHd m u) b (enE E) := kBY.fr (σ := kHd m s) tyU g0.1.1 (J_ok b hb).1 kb1 ch nb nbo
  have fb : u.1 b 3 = s.1 b 3 := (ch.fld tyU (h := b) (x := 3) k0.1 k0.2 (by decide) (fun z => nb _ z rfl)).1
  have f17 : u.1 0 17 = s.1 0 17 := (f0 17 (fun z => (hf _ z).2.2.2.2.1 rfl)).1
  exact ⟨hz, g, r1, jb.fix fx, ⟨kbz, fb.trans kb2⟩, kl, co, ck.fix fx, (f0 13 (fun z => (hf _ z).2.2.2.1 rfl)).1.trans z13, by rw [f17]; exact up_⟩
/-- a block runs -/
theorem kS_blk (K : kK) {x1 x3 x4 x5 x6 x7 x8 : Int32} {n many rn : Nat} (hc : c ∈ CNs) (e8 : x8 = nI many) (hmany : many ≤ 200)
    (hK : ∀ (u : kS) (ws : Req) (k : Nat) (x9 : Int32), kTY u → FW c f x4 n true 29 k 0 m ws u → kjY kPP (kQQ Y) (d + 12) 3 95 [some (.ref 0), some (.int x1), some (.ref c), some (.int x3), some (.int x4), some (.int x5), some (.int x6), some (.int x7), some (.int x8), some (.int x9)] [] u K) :
    ∀ (qs : List Req) (i : Nat) (D : List Int32) (x9 : Int32) (k : Nat) (ws : Req) (u : kS), kTY u → FW c f x4 n true 29 k (rqs qs) m ws u → BRn c rn D qs u → x9 = nI i → i + qs.length = many →
    kjY kPP (kQQ Y) (d + 12) 3 85 [some (.ref 0), some (.int x1), some (.ref c), some (.int x3), some (.int x4), some (.int x5), some (.int x6), some (.int x7), some (.int x8), some (.int x9)] [] u K := by
  obtain ⟨q1, q2, -⟩ := CN_ok c hc
  intro qs
  induction qs with
  | nil =>
    intro i D x9 k ws u tu hF hB e9 hi
    have kc : (u.2.2.2.1 c).1 = 1 := tu.k q1 q2
    have hi : i + 0 = many := hi
    refine kjZ_y rfl rfl 3 _ _ _ _ tu ?_
    refine And.intro (fun c1 => ?_) (fun c1 => ?_)
    rotate_left
    · refine absurd (show x8 ≤ x9 from ?_) c1
      rw [e8, e9, nle (by omega) (by omega)]; omega
    exact hK u ws k x9 tu hF
  | cons q r ih =>
    intro i D x9 k ws u tu hF hB e9 hi
    have kc : (u.2.2.2.1 c).1 = 1 := tu.k q1 q2
    have hi : i + (r.length + 1) = many := hi
    obtain ⟨b1, b2, b3, b4, b5, b6, b7, b8⟩ := hB
    obtain ⟨hW, j, hqc⟩ := b8 q (List.mem_cons_self ..)
    have b5 : kBY u rn (D ++ encR q ++ encs r) := by
      rw [encs_cons, ← List.append_assoc] at b5; exact b5
    refine kjZ_y rfl rfl 3 _ _ _ _ tu ?_
    refine And.intro (fun c1 => ?_) (fun c1 => ?_)
    · refine absurd (show x8 ≤ x9 from c1) ?_
      rw [e8, e9, nle (by omega) (by omega)]; omega
    refine kjZ_y rfl rfl 2 _ _ _ _ tu ?_
    refine (And.intro (Nat.le_of_ble_eq_true rfl) (And.intro (Or.inl ⟨(Nat.le_of_ble_eq_true rfl), (tu.k (by decide) rfl)⟩) (And.intro (Nat.le_of_ble_eq_true rfl) (And.intro (Nat.le_of_ble_eq_true rfl) (kjY_mono tu (fun q_ u1 t1 xu1 h_ => ?_) (kS_next (d := d + 3) tu hF b1 b2 b3 b4 hqc b5 b6 hc b7))))))
    obtain ⟨rfl, F1, cm, ⟨i15, i13, f6, f12⟩, hno, kby⟩ := h_
    intro _ _
    have kc1 : (u1.2.2.2.1 c).1 = 1 := t1.k q1 q2
    have F1 : FW c f x4 n true 29 k (rw q + rqs r) m q u1 := F1
    refine kjZ_y rfl rfl 3 _ _ _ _ t1 ?_
    refine (And.intro (Nat.le_of_ble_eq_true rfl) (And.intro (Or.inl ⟨(Nat.le_of_ble_eq_true rfl), (t1.k (by decide) rfl)⟩) (And.intro (Nat.le_of_ble_eq_true rfl) (And.intro (Nat.le_of_ble_eq_true rfl) (kjY_mono t1 (fun q_ u2 t2 xu2 h_ => ?_) (kS_perf (d := d) t1 F1 hc cm hqc hW))))))
    obtain ⟨rfl, F2, k15, k13, k6, k12, kr⟩ := h_
    intro _ _
    refine kjZ_y rfl rfl 2 _ _ _ _ t2 ?_
    have sm := kr rn b2 f12 hno
    have f122 : u2.2.2.1 0 12 = some rn := k12.trans f12
    exact ih (i + 1) (D ++ encR q) _ (k + 1) q u2 t2 F2 ⟨by rw [k13, i13]; exact b1, b2, f122, F2.rn.no f122, sm.1 _ kby, k15.trans i15, k6.trans f6, fun q' hq' => b8 q' (List.mem_cons_of_mem _ hq')⟩ (by rw [e9]; exact nI_1 i) (by omega)
/-- what was read -/
theorem LW.rd {nmm : List (List Int32)} {ks : List KC} {b p : Nat} {E : List Blk} {I : Nat → List Int32} {Q : Nat → List Req} (ty : kTY s) (h : LW s nmm ks b E p m) (rn : RNW s) (cn : CNW s I Q) (tp : TAP s) {row a : Nat} {z : kS} (ez : z = ((mjIu (mjIu s.1 53 4 0) 53 5 (nI a)), s.2.1, kFu s.2.2.1 53 3 (some row), s.2.2.2)) (rx : RWx z u) : (LW u nmm ks b E p m ∧ RNW u ∧ CNW u I Q ∧ TAP u ∧ ∀ c ∈ CNs, u.1 c 0 = s.1 c 0) ∧ u.2.2.1 53 3 = some row ∧ u.2.2.2.1 = s.2.2.2.1 ∧ (∀ h x, ¬ h = 53 → u.2.2.1 h x = s.2.2.1 h x) ∧ ∀ h x, ¬ h = 53 → ¬ h = 54 → ¬ h = 55 → u.1 h x = s.1 h x := by
  obtain ⟨hm, g, hh⟩ := id h
  have tyU := kTY_kUn (S := 4 * m) (T := 1) ty
  have e222 : u.2.2.2 = s.2.2.2 := (congrArg (fun t => t.2) rx.1).trans (by rw [ez])
  obtain ⟨g1, o1, ch1, f3, eD, -, eF, eI⟩ := KG.rd (σ := kHd m s) (u := kHd m u) (z := kHd m z) tyU g (h := row) (p := a) (by rw [ez]) ⟨congrArg (fun t : (Nat → Nat → Option Nat) × (Nat → Nat × Nat) × Nat × Nat × Nat => (t.1, t.2.1, t.2.2.1, t.2.2.2.1 - 1, t.2.2.2.2 - 4 * m)) rx.1, rx.2⟩
  have hz : 4 * m ≤ u.2.2.2.2.2.2 ∧ 1 ≤ u.2.2.2.2.2.1 := by
    rw [show u.2.2.2.2.2.2 = s.2.2.2.2.2.2 from congrArg (fun t => t.2.2.2) e222, show u.2.2.2.2.2.1 = s.2.2.2.2.2.1 from congrArg (fun t => t.2.2.1) e222]; exact hm
  have y1 : (∀ p ∈ rdF, (¬ p.1 ∈ OFb) ∧ ∀ c ∈ CNs, (¬ p = (c, 0)) ∧ (¬ p = (c, 3)) ∧ ¬ p = (c, 7)) ∧ (∀ p ∈ rdO, p ∈ OWs ∧ ¬ p.1 ∈ OFb) ∧ (∀ p ∈ rdF, ¬ p.1 = 1) ∧ ∀ p ∈ rdO, p ∈ OWs ∧ ¬ p.1 = 1 := by decide +kernel
  have y2 : LWh rdF ∧ LWo rdO := by
    refine ⟨?_, ?_⟩
    · decide +kernel
    · decide +kernel
  have al : ALS s u := ALS.ch (σ := kHd m s) (u := kHd m u) tyU g.1.1 ch1 y1.1 y1.2.1
  exact ⟨⟨h.ch ty hz g1 ch1 y2.1 y2.2, rn.same (eF 0 12 (by decide)) (fun c hc => (al.2 c hc).1), cn.als al, TAP.ch (s := kHd m s) (u := kHd m u) tyU g.1.1 tp ch1 y1.2.2.1 y1.2.2.2, fun c hc => (al.2 c hc).2.1⟩, f3, eD, eF, eI⟩
theorem WP_ok (ty : kTY s) {row M e : Nat} (kh : s.2.2.2.1 row = (21, M)) {q : Req} (h : WP (s.1 row) e u q) : ∀ w ∈ q, WOK w := fun w hw => by
  obtain ⟨i, hi⟩ := List.mem_iff_getElem?.mp hw
  obtain ⟨a, -, -, -, h4, h5⟩ := h i w hi
  refine ⟨h5, ?_⟩
  rw [← h4]
  exact wd_BY ty kh _ _
end KSEND
