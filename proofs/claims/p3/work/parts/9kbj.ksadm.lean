/-! Send: the look at a request. -/
/-- a block runs: so much of it is done, so much is left -/
def BRn (c rn : Nat) (D : List Int32) (qs : List Req) (z : kS) : Prop := (¬ z.1 0 13 = 0) ∧ rn ∈ payB ∧ z.2.2.1 0 12 = some rn ∧ (∀ c ∈ CNs, ¬ z.2.2.1 c 3 = some rn) ∧ kBY z rn (D ++ encs qs) ∧ z.1 0 15 = nI D.length ∧ z.2.2.1 53 6 = some (c + 3) ∧ ∀ q ∈ qs, QKo q
def adQ (c f : Nat) (x4 : Int32) (n : Nat) (ws : Req) : kK := fun v z => ∃ many m, v = some (.int (nI many)) ∧ many ≤ 200 ∧ ((many = 0 ∧ FW c f x4 n false 0 0 0 m ws z) ∨ (many = 1 ∧ z.1 0 13 = 0 ∧ FW c f x4 n false 0 0 (rw ws + 0) m ws z ∧ ∃ j, CMD z j ∧ QC ws j) ∨ (∃ qs rn, many = qs.length ∧ FW c f x4 n true 29 0 (rqs qs) m ws z ∧ BRn c rn [] qs z))
section KSADM
variable {Y : Nat → MethodName × ByteArray} {d : Nat} {s u : kS} {ws : Req} {c f m : Nat} {x4 : Int32}
theorem rqs_sn (ws : Req) : ∀ qs : List Req, rqs (qs ++ [ws]) = rqs qs + rw ws
  | [] => by show rw ws + 0 = 0 + rw ws; omega
  | q :: r => by
    show rw q + rqs (r ++ [ws]) = rw q + rqs r + rw ws
    rw [rqs_sn ws r]; omega
theorem encs_sn (ws : Req) (qs : List Req) : encs (qs ++ [ws]) = encs qs ++ encR ws := by
  show (qs ++ [ws]).flatMap encR = qs.flatMap encR ++ encR ws
  rw [List.flatMap_append]
  show _ ++ (encR ws ++ []) = _
  rw [List.append_nil]
theorem ow_cn : ∀ c ∈ CNs, (c + 1, 1) ∈ OWs ∧ (∀ b ∈ payB, (b, 1) ∈ OWs ∧ ¬ ((b, 1) : Nat × Nat) = (c + 1, 1)) ∧ ∀ b ∈ [5, 7], (b, 1) ∈ OWs ∧ ¬ ((b, 1) : Nat × Nat) = (c + 1, 1) := by decide +kernel
theorem kS_admit (ty : kTY u) {nmm : List (List Int32)} {ks : List KC} {b p : Nat} {E : List Blk} {I : Nat → List Int32} {Q : Nat → List Req} (h : LW u nmm ks b E p m) (rn : RNW u) (cn : CNW u I Q) (tp : TAP u) (hq : RQ u ws) (hrow : u.2.2.1 53 3 = u.2.2.1 (c + 1) 1) (h1 : 1 ≤ ws.length) (h1024 : ws.length ≤ 1024) (hW : ∀ w ∈ ws, WOK w) (hc : c ∈ CNs) (hlv : ¬ u.1 c 0 = 0) {a0 nx : Nat} (hnx : a0 + rw ws ≤ nx) (hnI : nx ≤ (I c).length) (e4 : x4 = nI nx) (s1 : f + sIn I + sQu Q ≤ p + a0) (s2 : 4 * (f + sIn I) + 16 ≤ m + 4 * a0) : kjY kPP (kQQ Y) (d + 8) 24 0 (mjL0 3 [.ref 0, .ref c]) [] u (adQ c f x4 (enE E).length ws) := by
  obtain ⟨hm, g, ⟨r1, r2, r3, r4⟩, jb, kb, kl, co, ck, z13, up_⟩ := h
  obtain ⟨bj, rn0, hrn, er, hno⟩ := id rn
  obtain ⟨⟨i1, i2⟩, ⟨bk, hbk, eb, k1, k2⟩, c7, l2, hqs⟩ := cn c hc
  have ow : OWN u := g.1.1
  obtain ⟨w1, w2, w3⟩ := ow_cn c hc
  have ap : ∀ x, (x, 1) ∈ OWs → ¬ ((x, 1) : Nat × Nat) = (c + 1, 1) → ∀ g, u.2.2.1 53 3 = some g → ¬ u.2.2.1 x 1 = some g := fun x hx hne g hg hy => hne (ow _ hx _ w1 (hy.trans (hg.symm.trans hrow)))
  have jnb : JN bk u (encs (Q c)) := ⟨k1, k2, ap bk (w2 bk hbk).1 (w2 bk hbk).2⟩
  have hb := jb.1
  have jnj : JN b u (enE E) := ⟨kb.1, kb.2, ap b (w3 b hb).1 (w3 b hb).2⟩
  have o : (I c).length ≤ sIn I := sC_at (f := fun c => (I c).length) hc
  have oq : rqs (Q c) ≤ sQu Q := sC_at (f := fun c => rqs (Q c)) hc
  have en := QKo.all hqs
  have e7 := enc_4g h1024 (fun w hw => (hW w hw).1)
  refine kjY_mono ty (fun v z tz _ q => ?_) (kx_admit (d := d) ty hm g hq h1 hc hbk hrn eb er jnb (by omega) (by omega))
  obtain ⟨m', o8, hz, gz, ch, f6, f8, ho, q⟩ := q
  obtain ⟨ay1, ay2, ay3⟩ := ad_y c hc
  have fx : FIX u z := FIX.ch ty ch ay1
  have f17 : z.1 0 17 = u.1 0 17 := (ch.fld ty (h := 0) (c := 9) (by decide) rfl (by decide) ay2).1
  have nb : ∀ p ∈ adF c, ¬ p.1 = b := fun p hp => by
    have hb57 : b = 5 ∨ b = 7 := by simpa using hb
    rcases hb57 with e | e
    · rw [e]; exact (ay3 p hp).2.1
    · rw [e]; exact (ay3 p hp).2.2.1
  have nbo : ∀ p ∈ AFo, p ∈ OWs ∧ ¬ p.1 = b := fun p hp => by
    have hb57 : b = 5 ∨ b = 7 := by simpa using hb
    rcases hb57 with e | e
    · rw [e]; exact ⟨(ad_o p hp).1, (ad_o p hp).2.2.1⟩
    · rw [e]; exact ⟨(ad_o p hp).1, (ad_o p hp).2.2.2.1⟩
  have jz : JN b z (enE E) := jnj.fr ty ow (J_ok b hb).1 ch (fun p hp => ⟨nb p hp, (ay3 p hp).2.2.2⟩) nbo
  have tz' : TAP z := TAP.ch ty ow tp ch (fun p hp => (ay3 p hp).1) (fun p hp => ⟨(ad_o p hp).1, (ad_o p hp).2.1⟩)
  have l0 : z.1 c 0 = u.1 c 0 := (ch.fld ty (CN_w c hc).1 (CN_w c hc).2 (by decide) (fun y => (ad_x c hc _ y c hc).2.1 rfl)).1
  have mk : ∀ (bl : Bool) (e r p1 : Nat) (Q' : Nat → List Req), CNW z I Q' → RNW z → BMk (z.1 0 13) (z.1 0 14) bl [] → p1 ≤ p → (enE E).length + e + (tmK (skA ks) + 8 * p1) ≤ 207584 → f + sIn I + sQu Q' + r ≤ p1 + nx → 4 * (f + sIn I) + 16 ≤ m' + 4 * nx → FW c f x4 (enE E).length bl e 0 r m' ws z := by
    intro bl e r p1 Q' hC hR hB hp hco hs1 hs2
    refine ⟨nmm, ks, b, E, skA ks, [], p1, I, Q', hz, gz, ⟨r1, r2.less hp, r3.less hp, by omega⟩, ⟨jb.fix fx, ?_, rfl⟩, ⟨hB, KLg_less hp kl, rfl, ?_, Nat.le_refl 0⟩, ck.fix fx, by rw [f17]; exact up_, hR, hC, tz', ⟨nx, hnI, fun _ => e4, fun y => absurd (l0.symm.trans y) hlv, hs1, hs2⟩⟩
    · rw [pend_0, List.append_nil]; exact jz
    · show (enE E).length + 0 + e + (tmK (skA ks) + 8 * p1) ≤ 207584; omega
  have hQC : ∀ j, o8 = some (1000000 + j) → j < 105 → tkP j (nI (ws.length - 1)) → QC ws j := by
    intro j e1 e2 e3
    rcases ho with ⟨j', w, a1, a2, a3, a4⟩ | ⟨a1, -⟩
    · rw [e1] at a3
      have : j = j' := by have := Option.some.inj a3; omega
      rw [← this] at a4
      exact ⟨e2, ⟨w, a1, a4⟩, h1024, fun w hw => (hW w hw).1, e3⟩
    · rw [e1] at a1; cases a1
  have e3s : ∀ c' ∈ CNs, ¬ c' = c → z.2.2.1 c' 3 = u.2.2.1 c' 3 := fun c' hc' w => (ch.fld ty (CN_w c' hc').1 (CN_w c' hc').2 (by decide) (fun y => ((ad_x c hc _ y c' hc').2.2 w).1 rfl)).2.2
  have rsame : z.2.2.1 c 3 = some bk → z.2.2.1 0 12 = some rn0 → RNW z := fun fb fr => rn.same (fr.trans er.symm) (fun c' hc' => by
    by_cases w : c' = c
    · rw [w]; exact fb.trans eb.symm
    · exact e3s c' hc' w)
  have nbk : ∀ c' ∈ CNs, ¬ c' = c → ∀ b' ∈ payB, u.2.2.1 c' 3 = some b' → ¬ b' = bk := fun c' hc' w b' _ e y => w (bj.2 c' hc' c hc (by rw [e, eb, y]))
  have b0 : z.1 0 13 = 0 → BMk (z.1 0 13) (z.1 0 14) false [] := fun y => ⟨⟨fun w => absurd y w, fun w => by cases w⟩, fun w => by cases w⟩
  -- nothing of the blocks has changed
  have same : z.2.2.1 c 3 = some bk → z.1 c 7 = u.1 c 7 → KPb u z → ∃ Q', CNW z I Q' ∧ sQu Q' ≤ sQu Q := fun fb i7 kp => by
    obtain ⟨a1, -, -⟩ := cn.ad ty ow hc ch (qc := Q c) ⟨⟨bk, hbk, fb, (kp bk hbk _ k1).1, (kp bk hbk _ k1).2.trans k2⟩, i7.trans c7, l2, hqs⟩ (fun c' _ _ b' hb' _ l hl => kp b' hb' l hl)
    have := sQ_one (Q := Q) hc (Q c)
    exact ⟨_, a1, by omega⟩
  rcases q with ⟨rfl, em, ⟨fb, fr, i13, i7⟩, kp⟩ | ⟨j, eo, hj, htk, q⟩
  · obtain ⟨Q', a1, a2⟩ := same fb i7 kp
    exact ⟨0, m', rfl, Nat.zero_le _, Or.inl ⟨rfl, mk false 0 0 p Q' a1 (rsame fb fr) (b0 (i13.trans z13)) (Nat.le_refl _) (by omega) (by omega) (by omega)⟩⟩
  have hqc := hQC j eo hj htk
  obtain ⟨-, g3, -, g4⟩ := hqc.ge
  rcases q with ⟨rfl, em, ⟨fb, fr, i13, i7⟩, kp⟩ | ⟨rfl, ⟨fb, fr, i13⟩, l', jl, em, kp, q⟩ | ⟨em, i4, i7, q⟩
  · obtain ⟨Q', a1, a2⟩ := same fb i7 kp
    exact ⟨1, m', rfl, by decide, Or.inr (Or.inl ⟨rfl, i13.trans z13, mk false 0 (rw ws + 0) p Q' a1 (rsame fb fr) (b0 (i13.trans z13)) (Nat.le_refl _) (by omega) (by omega) (by omega), j, ⟨f8.trans eo, hj⟩, hqc⟩)⟩
  · have ho2 : ∀ c' ∈ CNs, ¬ c' = c → ∀ b' ∈ payB, u.2.2.1 c' 3 = some b' → ∀ l, kBY u b' l → kBY z b' l ∧ z.1 b' 3 = u.1 b' 3 := fun c' hc' w b' hb' e l hl => kp b' hb' (nbk c' hc' w b' hb' e) l hl
    rcases q with ⟨el, i7⟩ | ⟨el, hlt, i7⟩
    · rw [el] at jl em
      obtain ⟨a1, -, -⟩ := cn.ad ty ow hc ch (qc := Q c) ⟨⟨bk, hbk, fb, jl.1, jl.2.1⟩, i7.trans c7, l2, hqs⟩ ho2
      have := sQ_one (Q := Q) hc (Q c)
      exact ⟨0, m', rfl, Nat.zero_le _, Or.inl ⟨rfl, mk false 0 0 p _ a1 (rsame fb fr) (b0 (i13.trans z13)) (Nat.le_refl _) (by omega) (by omega) (by omega)⟩⟩
    · rw [el] at jl em
      rw [List.length_append] at em
      rw [c7, nlt (by omega) (by decide)] at hlt
      have e4' := enc_4 h1 h1024 (fun w hw => (hW w hw).1) g3
      obtain ⟨a1, -, -⟩ := cn.ad ty ow hc ch (qc := Q c ++ [ws]) ⟨⟨bk, hbk, fb, by rw [encs_sn]; exact jl.1, jl.2.1⟩, by rw [i7, c7, List.length_append]; exact nI_1 _, by rw [List.length_append]; show (Q c).length + 1 ≤ 200; omega, fun q hq => by
        rcases List.mem_append.mp hq with y | y
        · exact hqs q y
        · rw [List.mem_singleton.mp y]; exact ⟨hW, j, hqc⟩⟩ ho2
      have sq := sQ_one (Q := Q) hc (Q c ++ [ws])
      rw [rqs_sn] at sq
      exact ⟨0, m', rfl, Nat.zero_le _, Or.inl ⟨rfl, mk false 0 0 p _ a1 (rsame fb fr) (b0 (i13.trans z13)) (Nat.le_refl _) (by omega) (by omega) (by omega)⟩⟩
  · rcases q with ⟨rfl, fb, fr, i13, eB⟩ | ⟨rfl, fb, fr, ⟨i13, i14, i15⟩, eB⟩
    · obtain ⟨a1, -, -⟩ := cn.ad ty ow hc ch (qc := []) ⟨⟨bk, hbk, fb, eB.1.1, eB.1.2⟩, i7, Nat.zero_le _, fun q hq => by cases hq⟩ (fun c' hc' w b' hb' e l hl => eB.2 b' hb' (nbk c' hc' w b' hb' e) l hl)
      have sq := sQ_one (Q := Q) hc []
      have sq : sQu (fun c' => if c' = c then [] else Q c') + rqs (Q c) ≤ sQu Q + 0 := sq
      exact ⟨0, m', rfl, Nat.zero_le _, Or.inl ⟨rfl, mk false 0 0 p _ a1 (rsame fb fr) (b0 (i13.trans z13)) (Nat.le_refl _) (by omega) (by omega) (by omega)⟩⟩
    · obtain ⟨a1, -, -⟩ := cn.ad ty ow hc ch (qc := []) ⟨⟨rn0, hrn, fb, eB.1.1, eB.1.2⟩, i7, Nat.zero_le _, fun q hq => by cases hq⟩ (fun c' hc' w b' hb' e l hl => eB.2 b' hb' (fun y => hno c' hc' (by rw [e, y])) l hl)
      have sq := sQ_one (Q := Q) hc []
      have sq : sQu (fun c' => if c' = c then [] else Q c') + rqs (Q c) ≤ sQu Q + 0 := sq
      have nrb : ¬ bk = rn0 := fun y => hno c hc (by rw [eb, y])
      have hno2 : ∀ c' ∈ CNs, ¬ z.2.2.1 c' 3 = some bk := fun c' hc' y => by
        by_cases w : c' = c
        · rw [w, fb] at y; exact nrb (Option.some.inj y).symm
        · rw [e3s c' hc' w] at y; exact w (bj.2 c' hc' c hc (y.trans eb.symm))
      have rz : RNW z := by
        refine ⟨⟨fun c' hc' => ?_, fun c1 h1 c2 h2 y => ?_⟩, bk, hbk, fr, hno2⟩
        · by_cases w : c' = c
          · rw [w]; exact ⟨rn0, hrn, fb⟩
          · obtain ⟨x, hx, ex⟩ := bj.1 c' hc'
            exact ⟨x, hx, (e3s c' hc' w).trans ex⟩
        · by_cases w1 : c1 = c
          · by_cases w2 : c2 = c
            · rw [w1, w2]
            · rw [w1, fb, e3s c2 h2 w2] at y; exact absurd y.symm (hno c2 h2)
          · by_cases w2 : c2 = c
            · rw [w2, fb, e3s c1 h1 w1] at y; exact absurd y (hno c1 h1)
            · rw [e3s c1 h1 w1, e3s c2 h2 w2] at y; exact bj.2 c1 h1 c2 h2 y
      refine ⟨(Q c).length, m', by rw [c7], l2, Or.inr (Or.inr ⟨Q c, bk, rfl, mk true 29 (rqs (Q c)) (p - 4) _ a1 rz ⟨⟨fun _ => rfl, fun _ w => absurd (w.symm.trans i13) (by decide)⟩, fun _ => ⟨fun _ => rfl, fun _ => i14⟩⟩ (by omega) (by omega) (by omega) (by omega), ?_⟩)⟩
      exact ⟨fun w => absurd (w.symm.trans i13) (by decide), hbk, fr, hno2, (eB.2 bk hbk nrb _ k1).1, i15, f6, hqs⟩
end KSADM
