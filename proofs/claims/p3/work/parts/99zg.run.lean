/-! run: options, the memory's bound, the sorts, and then the command. -/
section RUN
variable {Y : Nat → MethodName × ByteArray} {d : Nat}
/-- the command is refused for the memory -/
def refP (σ : mjS) (ks : List KR) (i : Nat) : Prop := (¬ σ.2.2.1 r_heavy i = 0) ∧ σ.1 f_replays = 0 ∧ 60000 ≤ memA ks
theorem memA_fit {σ : mjS} {ws : List (List Int32)} {ks : List KR} {l : List Int32} (h : Wd σ ws ks l) (hm : memA ks < 2 ^ 30) : mjTY σ → mjY mjPP (mjQQ Y) d 20 0 (mjL0 6 [.ref 0]) [] σ (fun r u => r = some (.int (nI (memA ks))) ∧ u = σ) := by
  obtain ⟨⟨hs, fk, fe, k⟩, -⟩ := h
  exact fun ty => c_memory k ty
set_option maxRecDepth 100000 in
theorem c_run {σ : mjS} {ws : List (List Int32)} {ks : List KR} {l : List Int32} {b : Bool} {Q : mjS → Prop} {K : mjK} (ty : mjTY σ) (i1 : Nat) (hi : i1 < 128) {x : Int32} (ex : x = nI i1) (hm : memA ks < 2 ^ 30)
    (hw : (i1 < 22 ∨ (36 < i1 ∧ i1 < 94)) → 2 ≤ ws.length) (hw2 : (i1 = 50 ∨ i1 = 51 ∨ i1 = 70) → 3 ≤ ws.length)
    (ho : mjY mjPP (mjQQ Y) (d + 8) 72 0 (mjL0 2 [.ref 0, .int x]) [] σ (opK σ ws ks l b Q))
    (hN : ∀ u, Fr cF cH σ u → Wd u ws ks l → (b = false ∨ refP σ ks i1 ∨ ∃ g, (b = true → ∃ v, Q v ∧ v.1 f_optGet = g) ∧ sfB i1 g ws (strip ks) = false) → K none u)
    (hG : b = true → ∀ u, mjTY u → Fr opFs oH σ u → Wd u ws ks l → Q u → ¬ refP σ ks i1 → sfB i1 (u.1 f_optGet) ws (strip ks) = true → mjY mjPP (mjQQ Y) (d + 9) 155 36 [some (.ref 0), some (.int x)] [] u K) :
    mjY mjPP (mjQQ Y) (d + 9) 155 0 (mjL0 2 [.ref 0, .int x]) [] σ K := by
  have vx : vp_in x 128 := by rw [ex]; exact vp_in_nI hi (by decide)
  have cx : x.toNatClampNeg = i1 := by rw [ex]; exact nI_clamp (by omega)
  refine mjZ_y rfl rfl 3 _ _ _ _ ty ?_
  refine (And.intro (Nat.le_of_ble_eq_true rfl) (And.intro rfl (And.intro (Nat.le_of_ble_eq_true rfl) (And.intro (Nat.le_of_ble_eq_true rfl) (mjY_mono ty (fun q_ u1 ty1 h_ => ?_) (ho))))))
  obtain ⟨rfl, f1, h1, q1⟩ := h_
  intro _
  cases b with
  | false =>
    refine mjZ_y rfl rfl 1 _ _ _ _ ty1 ?_
    refine And.intro (fun c => ?_) (fun c => ?_)
    · exact absurd rfl c
    · refine mjZ_y rfl rfl 1 _ _ _ _ ty1 ?_
      refine And.intro rfl (And.intro rfl ?_)
      exact hN u1 f1.op h1 (Or.inl rfl)
  | true =>
    have q1 := q1 rfl
    have er : ∀ k, u1.2.2.1 r_heavy k = σ.2.2.1 r_heavy k := fun k => by rw [(f1.2.2 r_heavy (by decide)).1]
    have ep : u1.1 f_replays = σ.1 f_replays := f1.1 _ (by decide)
    have s23 : ¬ refP σ ks i1 → mjY mjPP (mjQQ Y) (d + 9) 155 23 [some (.ref 0), some (.int x)] [] u1 K := by
      intro nr
      refine mjZ_y rfl rfl 3 _ _ _ _ ty1 ?_
      refine (And.intro (Nat.le_of_ble_eq_true rfl) (And.intro rfl (And.intro (Nat.le_of_ble_eq_true rfl) (And.intro (Nat.le_of_ble_eq_true rfl) (mjY_mono ty1 (fun q_ u2 ty2 h_ => ?_) (c_sortsFit h1 ty1 i1 hi ex hw hw2 (fun z => hw (by omega))))))))
      obtain ⟨rfl, rfl⟩ := h_
      intro _
      refine mjZ_y rfl rfl 1 _ _ _ _ ty2 ?_
      refine And.intro (fun c => ?_) (fun c => ?_)
      · have c : sfB i1 (u2.1 f_optGet) ws (strip ks) = true := Decidable.of_not_not (fun z => c (bI_0.mpr (Bool.eq_false_iff.mpr z)))
        exact hG rfl u2 ty2 f1 h1 q1 nr c
      · have c : sfB i1 (u2.1 f_optGet) ws (strip ks) = false := bI_0.mp (Decidable.of_not_not c)
        refine mjZ_y rfl rfl 3 _ _ _ _ ty2 ?_
        refine (And.intro (Nat.le_of_ble_eq_true rfl) (And.intro rfl (And.intro (Nat.le_of_ble_eq_true rfl) (And.intro (Nat.le_of_ble_eq_true rfl) (mjY_mono ty2 (fun q_ u3 ty3 h_ => ?_) (c_letters ty2 h1.2.2.2.1 _))))))
        obtain ⟨rfl, o3⟩ := h_
        intro _
        have h3 := h1.ans o3
        refine mjZ_y rfl rfl 3 _ _ _ _ ty3 ?_
        refine (And.intro (Nat.le_of_ble_eq_true rfl) (And.intro rfl (And.intro (Nat.le_of_ble_eq_true rfl) (And.intro (Nat.le_of_ble_eq_true rfl) (mjY_mono ty3 (fun q_ u4 ty4 h_ => ?_) (c_letters ty3 h3.2.2.2.1 _))))))
        obtain ⟨rfl, o4⟩ := h_
        intro _
        have h4 := h3.ans o4
        refine mjZ_y rfl rfl 2 _ _ _ _ ty4 ?_
        refine (And.intro (Nat.le_of_ble_eq_true rfl) (And.intro rfl (And.intro (Nat.le_of_ble_eq_true rfl) (And.intro (Nat.le_of_ble_eq_true rfl) (mjY_mono ty4 (fun q_ u5 ty5 h_ => ?_) (c_line ty4 h4.2.2.2.1))))))
        obtain ⟨rfl, o5⟩ := h_
        intro _
        refine mjZ_y rfl rfl 1 _ _ _ _ ty5 ?_
        refine And.intro rfl (And.intro rfl ?_)
        exact hN u5 (((f1.op.tr o3.c).tr o4.c).tr o5.c) (h4.ans o5) (Or.inr (Or.inr ⟨_, fun _ => ⟨u2, q1, rfl⟩, c⟩))
    refine mjZ_y rfl rfl 1 _ _ _ _ ty1 ?_
    refine And.intro (fun c => ?_) (fun c => ?_)
    · refine mjZ_y rfl rfl 5 _ _ _ _ ty1 ?_
      refine (And.intro rfl (And.intro (Or.inr rfl) (And.intro vx (And.intro (fun a => ?_) (fun a => ?_)))))
      · rw [cx] at a
        exact s23 (fun z => z.1 ((er i1).symm.trans a))
      · rw [cx] at a
        have a2 : ¬ σ.2.2.1 r_heavy i1 = 0 := fun z => a ((er i1).trans z)
        refine mjZ_y rfl rfl 3 _ _ _ _ ty1 ?_
        refine (And.intro rfl (And.intro (fun e => ?_) (fun e => ?_)))
        · exact s23 (fun z => e (ep.trans z.2.1))
        · have e2 : σ.1 f_replays = 0 := ep.symm.trans (Decidable.of_not_not e)
          refine mjZ_y rfl rfl 2 _ _ _ _ ty1 ?_
          refine (And.intro (Nat.le_of_ble_eq_true rfl) (And.intro rfl (And.intro (Nat.le_of_ble_eq_true rfl) (And.intro (Nat.le_of_ble_eq_true rfl) (mjY_mono ty1 (fun q_ u2 ty2 h_ => ?_) (memA_fit h1 hm ty1))))))
          obtain ⟨rfl, rfl⟩ := h_
          intro _
          refine mjZ_y rfl rfl 2 _ _ _ _ ty2 ?_
          refine And.intro (fun g => ?_) (fun g => ?_)
          · have g : memA ks < 60000 := Nat.lt_of_not_le (fun z => Int32.not_lt.mpr (show nI 60000 ≤ nI (memA ks) from nI_le z (by omega)) g)
            exact s23 (fun z => by have := z.2.2; omega)
          · have g : 60000 ≤ memA ks := Nat.le_of_not_lt (fun z => g (show nI (memA ks) < nI 60000 from Int32.not_le.mp (nI_ge z (by decide))))
            refine mjZ_y rfl rfl 3 _ _ _ _ ty2 ?_
            refine (And.intro (Nat.le_of_ble_eq_true rfl) (And.intro rfl (And.intro (Nat.le_of_ble_eq_true rfl) (And.intro (Nat.le_of_ble_eq_true rfl) (mjY_mono ty2 (fun q_ u3 ty3 h_ => ?_) (c_letters ty2 h1.2.2.2.1 _))))))
            obtain ⟨rfl, o3⟩ := h_
            intro _
            have h3 := h1.ans o3
            refine mjZ_y rfl rfl 2 _ _ _ _ ty3 ?_
            refine (And.intro (Nat.le_of_ble_eq_true rfl) (And.intro rfl (And.intro (Nat.le_of_ble_eq_true rfl) (And.intro (Nat.le_of_ble_eq_true rfl) (mjY_mono ty3 (fun q_ u4 ty4 h_ => ?_) (c_line ty3 h3.2.2.2.1))))))
            obtain ⟨rfl, o4⟩ := h_
            intro _
            refine mjZ_y rfl rfl 1 _ _ _ _ ty4 ?_
            refine And.intro rfl (And.intro rfl ?_)
            exact hN u4 ((f1.op.tr o3.c).tr o4.c) (h3.ans o4) (Or.inr (Or.inl ⟨a2, e2, g⟩))
    · exact absurd (show ¬ (1 : Int32) = 0 by decide) c
end RUN
