def n1w (h0 : Nat) (mm : Nat → Nat) (kk : Nat → ClassId) (dv : Int32) (g0 : Nat → Int64) (g1 : Nat → Int64) (g2 : Nat → Int32) (g3 : Nat → Int32) (g4 : Nat → Int32) : va_W := [(h0, .inr (10, [.int 0, .ref (mm 0), .ref (mm 1), .ref (mm 2), .ref (mm 3), .ref (mm 4), .int dv, .ref (mm 5), .ref (mm 6), .int 0, .int 0, .ref (mm 7), .ref (mm 8), .int 0, .ref (mm 9), .ref (mm 10), .ref (mm 11), .ref (mm 12), .ref (mm 13), .ref (mm 14), .ref (mm 15), .ref (mm 16), .ref (mm 17), .ref (mm 18), .ref (mm 19), .ref (mm 20), .ref (mm 21), .ref (mm 22), .ref (mm 23), .ref (mm 24), .ref (mm 25), .int 0, .ref (mm 26), .int 0, .ref (mm 27), .ref (mm 28), .int 0, .ref (mm 29), .ref (mm 30), .ref (mm 31), .ref (mm 32), .ref (mm 33), .ref (mm 34), .ref (mm 35), .ref (mm 36), .int 0, .ref (mm 37), .ref (mm 38), .ref (mm 39), .ref (mm 40), .int 0, .ref (mm 41), .ref (mm 42), .ref (mm 43), .ref (mm 44), .ref (mm 45), .int 0, .ref (mm 46), .ref (mm 47), .ref (mm 48), .int 0, .int 0, .ref (mm 49), .int 0, .ref (mm 50), .int 0, .ref (mm 51), .int 0, .int (-1), .int 1, .int 0, .int 0, .long 0, .ref (mm 52), .long 0, .long 0, .long 0, .int 0, .int 0, .int 0, .int 0, .int 0, .int 0, .int 0, .int 0, .int 0, .int 0, .long 0, .long 0, .int 0, .long 0, .int 0, .long 0, .long 0, .int 0, .int 0, .ref (mm 53), .int 0, .int 0, .int 0, .int 0, .int 0, .ref (mm 54), .int 0, .ref (mm 55), .ref (mm 56), .int 0, .int 0, .ref (mm 57), .int 0, .int 0, .int 0, .ref (mm 58), .int 0, .ref (mm 59), .int 0])), ((mm 0), .inl ((kk 0), 128, .inr (.inl g0))), ((mm 1), .inl ((kk 1), 128, .inr (.inl g1))), ((mm 2), .inl ((kk 2), 128, .inl g2)), ((mm 3), .inl ((kk 3), 128, .inl g3)), ((mm 4), .inl ((kk 4), 128, .inl g4))]
def n1W (dC : Nat → ClassId) (dI : Nat → Nat → Nat) (A : Nat → Prop) (s : State) (h0 : Nat) (mm : Nat → Nat) (kk : Nat → ClassId) (dv : Int32) (H : Heap) (locs : List Loc) : Prop :=
  ∃ (g0 : Nat → Int64) (g1 : Nat → Int64) (g2 : Nat → Int32) (g3 : Nat → Int32) (g4 : Nat → Int32), va_P (dC, dI) classes (n1w h0 mm kk dv g0 g1 g2 g3 g4) H ∧ va_D A (n1w h0 mm kk dv g0 g1 g2 g3 g4) ∧ va_S A s.heap H locs
set_option maxHeartbeats 4000000 in
set_option maxRecDepth 100000 in
/-- one define in names1, the world in one word -/
theorem n1_step {p : Program} {l : Launch} {e : Env} {R : Room} {s : State} {m : MethodId} {args : Array Value} {below : List Frame} {meth : Method} {c : Code} {H : Heap} {locs : List Loc} {Q : State → Prop} {A : Nat → Prop} {dC : Nat → ClassId} {dI : Nat → Nat → Nat} {ls : Array Slot} {pc : Nat} {h0 : Nat} {mm : Nat → Nat} {kk : Nat → ClassId} {cc : ByteArray} {pa pb : Int64} {pc1 pd pe dv dv' : Int32}
    (hx : p.tables.exec = Jvm.exec) (hb : c.code = cc) (hml : c.maxLocals = 1) (hown : s.vm.findClass RX13 = some m.cls) (hkw : ∀ w ∈ kw, w.before args s = true) (hfx : fx s) (hA : ∀ q : Nat, s.heap.size ≤ q → A q) (hdv : dv + 1 = dv') (hd1 : vp_in (dv + 1) 128)
    (hK : va_K (dC, dI) classes [((kk 0), .long), ((kk 1), .long), ((kk 2), .int), ((kk 3), .int), ((kk 4), .boolean)] s) (hw : n1W dC dI A s h0 mm kk dv H locs) (hl : lv_has ls 1 [(0, .ref h0)]) (hR1 : 0 + 1 ≤ R.frames) (hR2 : 8 + (8 + 11) + 0 ≤ R.locals) (hd : decode cc pc = .ok (.invokevirtual 380, 3))
    (kont : ∀ (H : Heap) (locs : List Loc), n1W dC dI A s h0 mm kk dv' H locs → W p l e R s m args below meth c H locs 0 0 Q (F0 m (pc + 3) ls [])) :
    W p l e R s m args below meth c H locs 0 0 Q (F0 m pc ls [.int pe, .int pd, .int pc1, .long pb, .long pa, .ref h0]) := by
  obtain ⟨g0, g1, g2, g3, g4, hP, hD, hS⟩ := hw
  have hP : va_P (dC, dI) classes [(h0, .inr (10, [.int 0, .ref (mm 0), .ref (mm 1), .ref (mm 2), .ref (mm 3), .ref (mm 4), .int dv, .ref (mm 5), .ref (mm 6), .int 0, .int 0, .ref (mm 7), .ref (mm 8), .int 0, .ref (mm 9), .ref (mm 10), .ref (mm 11), .ref (mm 12), .ref (mm 13), .ref (mm 14), .ref (mm 15), .ref (mm 16), .ref (mm 17), .ref (mm 18), .ref (mm 19), .ref (mm 20), .ref (mm 21), .ref (mm 22), .ref (mm 23), .ref (mm 24), .ref (mm 25), .int 0, .ref (mm 26), .int 0, .ref (mm 27), .ref (mm 28), .int 0, .ref (mm 29), .ref (mm 30), .ref (mm 31), .ref (mm 32), .ref (mm 33), .ref (mm 34), .ref (mm 35), .ref (mm 36), .int 0, .ref (mm 37), .ref (mm 38), .ref (mm 39), .ref (mm 40), .int 0, .ref (mm 41), .ref (mm 42), .ref (mm 43), .ref (mm 44), .ref (mm 45), .int 0, .ref (mm 46), .ref (mm 47), .ref (mm 48), .int 0, .int 0, .ref (mm 49), .int 0, .ref (mm 50), .int 0, .ref (mm 51), .int 0, .int (-1), .int 1, .int 0, .int 0, .long 0, .ref (mm 52), .long 0, .long 0, .long 0, .int 0, .int 0, .int 0, .int 0, .int 0, .int 0, .int 0, .int 0, .int 0, .int 0, .long 0, .long 0, .int 0, .long 0, .int 0, .long 0, .long 0, .int 0, .int 0, .ref (mm 53), .int 0, .int 0, .int 0, .int 0, .int 0, .ref (mm 54), .int 0, .ref (mm 55), .ref (mm 56), .int 0, .int 0, .ref (mm 57), .int 0, .int 0, .int 0, .ref (mm 58), .int 0, .ref (mm 59), .int 0])), ((mm 0), .inl ((kk 0), 128, .inr (.inl g0))), ((mm 1), .inl ((kk 1), 128, .inr (.inl g1))), ((mm 2), .inl ((kk 2), 128, .inl g2)), ((mm 3), .inl ((kk 3), 128, .inl g3)), ((mm 4), .inl ((kk 4), 128, .inl g4))] H := hP
  have hD : va_D A [(h0, .inr (10, [.int 0, .ref (mm 0), .ref (mm 1), .ref (mm 2), .ref (mm 3), .ref (mm 4), .int dv, .ref (mm 5), .ref (mm 6), .int 0, .int 0, .ref (mm 7), .ref (mm 8), .int 0, .ref (mm 9), .ref (mm 10), .ref (mm 11), .ref (mm 12), .ref (mm 13), .ref (mm 14), .ref (mm 15), .ref (mm 16), .ref (mm 17), .ref (mm 18), .ref (mm 19), .ref (mm 20), .ref (mm 21), .ref (mm 22), .ref (mm 23), .ref (mm 24), .ref (mm 25), .int 0, .ref (mm 26), .int 0, .ref (mm 27), .ref (mm 28), .int 0, .ref (mm 29), .ref (mm 30), .ref (mm 31), .ref (mm 32), .ref (mm 33), .ref (mm 34), .ref (mm 35), .ref (mm 36), .int 0, .ref (mm 37), .ref (mm 38), .ref (mm 39), .ref (mm 40), .int 0, .ref (mm 41), .ref (mm 42), .ref (mm 43), .ref (mm 44), .ref (mm 45), .int 0, .ref (mm 46), .ref (mm 47), .ref (mm 48), .int 0, .int 0, .ref (mm 49), .int 0, .ref (mm 50), .int 0, .ref (mm 51), .int 0, .int (-1), .int 1, .int 0, .int 0, .long 0, .ref (mm 52), .long 0, .long 0, .long 0, .int 0, .int 0, .int 0, .int 0, .int 0, .int 0, .int 0, .int 0, .int 0, .int 0, .long 0, .long 0, .int 0, .long 0, .int 0, .long 0, .long 0, .int 0, .int 0, .ref (mm 53), .int 0, .int 0, .int 0, .int 0, .int 0, .ref (mm 54), .int 0, .ref (mm 55), .ref (mm 56), .int 0, .int 0, .ref (mm 57), .int 0, .int 0, .int 0, .ref (mm 58), .int 0, .ref (mm 59), .int 0])), ((mm 0), .inl ((kk 0), 128, .inr (.inl g0))), ((mm 1), .inl ((kk 1), 128, .inr (.inl g1))), ((mm 2), .inl ((kk 2), 128, .inl g2)), ((mm 3), .inl ((kk 3), 128, .inl g3)), ((mm 4), .inl ((kk 4), 128, .inl g4))] := hD
  have hPc := hP.sub (ws' := [(h0, .inr (10, [.int 0, .ref (mm 0), .ref (mm 1), .ref (mm 2), .ref (mm 3), .ref (mm 4), .int dv, .ref (mm 5), .ref (mm 6), .int 0, .int 0, .ref (mm 7), .ref (mm 8), .int 0, .ref (mm 9), .ref (mm 10), .ref (mm 11), .ref (mm 12), .ref (mm 13), .ref (mm 14), .ref (mm 15), .ref (mm 16), .ref (mm 17), .ref (mm 18), .ref (mm 19), .ref (mm 20), .ref (mm 21), .ref (mm 22), .ref (mm 23), .ref (mm 24), .ref (mm 25), .int 0, .ref (mm 26), .int 0, .ref (mm 27), .ref (mm 28), .int 0, .ref (mm 29), .ref (mm 30), .ref (mm 31), .ref (mm 32), .ref (mm 33), .ref (mm 34), .ref (mm 35), .ref (mm 36), .int 0, .ref (mm 37), .ref (mm 38), .ref (mm 39), .ref (mm 40), .int 0, .ref (mm 41), .ref (mm 42), .ref (mm 43), .ref (mm 44), .ref (mm 45), .int 0, .ref (mm 46), .ref (mm 47), .ref (mm 48), .int 0, .int 0, .ref (mm 49), .int 0, .ref (mm 50), .int 0, .ref (mm 51), .int 0, .int (-1), .int 1, .int 0, .int 0, .long 0, .ref (mm 52), .long 0, .long 0, .long 0, .int 0, .int 0, .int 0, .int 0, .int 0, .int 0, .int 0, .int 0, .int 0, .int 0, .long 0, .long 0, .int 0, .long 0, .int 0, .long 0, .long 0, .int 0, .int 0, .ref (mm 53), .int 0, .int 0, .int 0, .int 0, .int 0, .ref (mm 54), .int 0, .ref (mm 55), .ref (mm 56), .int 0, .int 0, .ref (mm 57), .int 0, .int 0, .int 0, .ref (mm 58), .int 0, .ref (mm 59), .int 0])), ((mm 0), .inl ((kk 0), 128, .inr (.inl g0))), ((mm 1), .inl ((kk 1), 128, .inr (.inl g1))), ((mm 2), .inl ((kk 2), 128, .inl g2)), ((mm 3), .inl ((kk 3), 128, .inl g3)), ((mm 4), .inl ((kk 4), 128, .inl g4))]) [0, 1, 2, 3, 4, 5] rfl
  have hDc := hD.sub (ws' := [(h0, .inr (10, [.int 0, .ref (mm 0), .ref (mm 1), .ref (mm 2), .ref (mm 3), .ref (mm 4), .int dv, .ref (mm 5), .ref (mm 6), .int 0, .int 0, .ref (mm 7), .ref (mm 8), .int 0, .ref (mm 9), .ref (mm 10), .ref (mm 11), .ref (mm 12), .ref (mm 13), .ref (mm 14), .ref (mm 15), .ref (mm 16), .ref (mm 17), .ref (mm 18), .ref (mm 19), .ref (mm 20), .ref (mm 21), .ref (mm 22), .ref (mm 23), .ref (mm 24), .ref (mm 25), .int 0, .ref (mm 26), .int 0, .ref (mm 27), .ref (mm 28), .int 0, .ref (mm 29), .ref (mm 30), .ref (mm 31), .ref (mm 32), .ref (mm 33), .ref (mm 34), .ref (mm 35), .ref (mm 36), .int 0, .ref (mm 37), .ref (mm 38), .ref (mm 39), .ref (mm 40), .int 0, .ref (mm 41), .ref (mm 42), .ref (mm 43), .ref (mm 44), .ref (mm 45), .int 0, .ref (mm 46), .ref (mm 47), .ref (mm 48), .int 0, .int 0, .ref (mm 49), .int 0, .ref (mm 50), .int 0, .ref (mm 51), .int 0, .int (-1), .int 1, .int 0, .int 0, .long 0, .ref (mm 52), .long 0, .long 0, .long 0, .int 0, .int 0, .int 0, .int 0, .int 0, .int 0, .int 0, .int 0, .int 0, .int 0, .long 0, .long 0, .int 0, .long 0, .int 0, .long 0, .long 0, .int 0, .int 0, .ref (mm 53), .int 0, .int 0, .int 0, .int 0, .int 0, .ref (mm 54), .int 0, .ref (mm 55), .ref (mm 56), .int 0, .int 0, .ref (mm 57), .int 0, .int 0, .int 0, .ref (mm 58), .int 0, .ref (mm 59), .int 0])), ((mm 0), .inl ((kk 0), 128, .inr (.inl g0))), ((mm 1), .inl ((kk 1), 128, .inr (.inl g1))), ((mm 2), .inl ((kk 2), 128, .inl g2)), ((mm 3), .inl ((kk 3), 128, .inl g3)), ((mm 4), .inl ((kk 4), 128, .inl g4))]) [0, 1, 2, 3, 4, 5] (by decide) rfl
  have hKc := hK.sub (tys' := [((kk 0), .long), ((kk 1), .long), ((kk 2), .int), ((kk 3), .int), ((kk 4), .boolean)]) [0, 1, 2, 3, 4] rfl
  have hFc := va_free (wc := [(h0, .inr (10, [.int 0, .ref (mm 0), .ref (mm 1), .ref (mm 2), .ref (mm 3), .ref (mm 4), .int dv, .ref (mm 5), .ref (mm 6), .int 0, .int 0, .ref (mm 7), .ref (mm 8), .int 0, .ref (mm 9), .ref (mm 10), .ref (mm 11), .ref (mm 12), .ref (mm 13), .ref (mm 14), .ref (mm 15), .ref (mm 16), .ref (mm 17), .ref (mm 18), .ref (mm 19), .ref (mm 20), .ref (mm 21), .ref (mm 22), .ref (mm 23), .ref (mm 24), .ref (mm 25), .int 0, .ref (mm 26), .int 0, .ref (mm 27), .ref (mm 28), .int 0, .ref (mm 29), .ref (mm 30), .ref (mm 31), .ref (mm 32), .ref (mm 33), .ref (mm 34), .ref (mm 35), .ref (mm 36), .int 0, .ref (mm 37), .ref (mm 38), .ref (mm 39), .ref (mm 40), .int 0, .ref (mm 41), .ref (mm 42), .ref (mm 43), .ref (mm 44), .ref (mm 45), .int 0, .ref (mm 46), .ref (mm 47), .ref (mm 48), .int 0, .int 0, .ref (mm 49), .int 0, .ref (mm 50), .int 0, .ref (mm 51), .int 0, .int (-1), .int 1, .int 0, .int 0, .long 0, .ref (mm 52), .long 0, .long 0, .long 0, .int 0, .int 0, .int 0, .int 0, .int 0, .int 0, .int 0, .int 0, .int 0, .int 0, .long 0, .long 0, .int 0, .long 0, .int 0, .long 0, .long 0, .int 0, .int 0, .ref (mm 53), .int 0, .int 0, .int 0, .int 0, .int 0, .ref (mm 54), .int 0, .ref (mm 55), .ref (mm 56), .int 0, .int 0, .ref (mm 57), .int 0, .int 0, .int 0, .ref (mm 58), .int 0, .ref (mm 59), .int 0])), ((mm 0), .inl ((kk 0), 128, .inr (.inl g0))), ((mm 1), .inl ((kk 1), 128, .inr (.inl g1))), ((mm 2), .inl ((kk 2), 128, .inl g2)), ((mm 3), .inl ((kk 3), 128, .inl g3)), ((mm 4), .inl ((kk 4), 128, .inl g4))]) hD hS hA [0, 1, 2, 3, 4, 5] rfl
  refine va_callv (va_runV (As := [.long pa, .long pb, .int pc1, .int pd, .int pe]) (rest := []) ⟨hx, hb, hml, hown, hkw⟩ (c_MO_define l dC dI H.size h0 (mm 0) (mm 1) (mm 2) (mm 3) (mm 4) (mm 5) (mm 6) (mm 7) (mm 8) (mm 9) (mm 10) (mm 11) (mm 12) (mm 13) (mm 14) (mm 15) (mm 16) (mm 17) (mm 18) (mm 19) (mm 20) (mm 21) (mm 22) (mm 23) (mm 24) (mm 25) (mm 26) (mm 27) (mm 28) (mm 29) (mm 30) (mm 31) (mm 32) (mm 33) (mm 34) (mm 35) (mm 36) (mm 37) (mm 38) (mm 39) (mm 40) (mm 41) (mm 42) (mm 43) (mm 44) (mm 45) (mm 46) (mm 47) (mm 48) (mm 49) (mm 50) (mm 51) (mm 52) (mm 53) (mm 54) (mm 55) (mm 56) (mm 57) (mm 58) (mm 59) (kk 0) (kk 1) (kk 2) (kk 3) (kk 4) g0 g1 g2 g3 g4 pa pb pc1 pd pe dv hd1) (callVv 5 hkw (kwI m_250) rfl rfl rfl (hkw _ m_251) (hkw _ m_252) (hkw _ m_253) (hkw _ m_254) (by decide +kernel) ⟨hR1, hR2⟩) ⟨fbW, va_recv hK hP (ci := 10) (q0 := 0) rfl rfl, pW_in hPc hKc hDc hfx⟩ rfl rfl hl.1 rfl (lv_room (Nat.le_of_ble_eq_true rfl)) hd ⟨Nat.zero_le _, Nat.zero_le _⟩) hS (fun q _ h => hFc q h) hFc (fun u t H1 locs ht hvm hw hB hz1 hk1 hS => ?_)
  obtain ⟨y1, q2, q3, q4, q5, q6⟩ := u
  obtain ⟨hP1, hK1, hD1⟩ := hB
  rw [ht] at hP1
  have hK1 := va_K.moved hvm.symm hK1
  obtain ⟨hP, hD⟩ := va_join (wr := []) (w1 := [(h0, .inr (10, [.int 0, .ref (mm 0), .ref (mm 1), .ref (mm 2), .ref (mm 3), .ref (mm 4), .int y1, .ref (mm 5), .ref (mm 6), .int 0, .int 0, .ref (mm 7), .ref (mm 8), .int 0, .ref (mm 9), .ref (mm 10), .ref (mm 11), .ref (mm 12), .ref (mm 13), .ref (mm 14), .ref (mm 15), .ref (mm 16), .ref (mm 17), .ref (mm 18), .ref (mm 19), .ref (mm 20), .ref (mm 21), .ref (mm 22), .ref (mm 23), .ref (mm 24), .ref (mm 25), .int 0, .ref (mm 26), .int 0, .ref (mm 27), .ref (mm 28), .int 0, .ref (mm 29), .ref (mm 30), .ref (mm 31), .ref (mm 32), .ref (mm 33), .ref (mm 34), .ref (mm 35), .ref (mm 36), .int 0, .ref (mm 37), .ref (mm 38), .ref (mm 39), .ref (mm 40), .int 0, .ref (mm 41), .ref (mm 42), .ref (mm 43), .ref (mm 44), .ref (mm 45), .int 0, .ref (mm 46), .ref (mm 47), .ref (mm 48), .int 0, .int 0, .ref (mm 49), .int 0, .ref (mm 50), .int 0, .ref (mm 51), .int 0, .int (-1), .int 1, .int 0, .int 0, .long 0, .ref (mm 52), .long 0, .long 0, .long 0, .int 0, .int 0, .int 0, .int 0, .int 0, .int 0, .int 0, .int 0, .int 0, .int 0, .long 0, .long 0, .int 0, .long 0, .int 0, .long 0, .long 0, .int 0, .int 0, .ref (mm 53), .int 0, .int 0, .int 0, .int 0, .int 0, .ref (mm 54), .int 0, .ref (mm 55), .ref (mm 56), .int 0, .int 0, .ref (mm 57), .int 0, .int 0, .int 0, .ref (mm 58), .int 0, .ref (mm 59), .int 0])), ((mm 0), .inl ((kk 0), 128, .inr (.inl q2))), ((mm 1), .inl ((kk 1), 128, .inr (.inl q3))), ((mm 2), .inl ((kk 2), 128, .inl q4)), ((mm 3), .inl ((kk 3), 128, .inl q5)), ((mm 4), .inl ((kk 4), 128, .inl q6))]) hP hD [0, 1, 2, 3, 4, 5] [] rfl rfl (by decide) (by decide) hk1 hFc hP1 hD1
  have hK := (hK.sub (tys' := []) [] rfl).app hK1
  generalize H1 = H at hP hS ⊢
  have hP : va_P (dC, dI) classes [(h0, .inr (10, [.int 0, .ref (mm 0), .ref (mm 1), .ref (mm 2), .ref (mm 3), .ref (mm 4), .int y1, .ref (mm 5), .ref (mm 6), .int 0, .int 0, .ref (mm 7), .ref (mm 8), .int 0, .ref (mm 9), .ref (mm 10), .ref (mm 11), .ref (mm 12), .ref (mm 13), .ref (mm 14), .ref (mm 15), .ref (mm 16), .ref (mm 17), .ref (mm 18), .ref (mm 19), .ref (mm 20), .ref (mm 21), .ref (mm 22), .ref (mm 23), .ref (mm 24), .ref (mm 25), .int 0, .ref (mm 26), .int 0, .ref (mm 27), .ref (mm 28), .int 0, .ref (mm 29), .ref (mm 30), .ref (mm 31), .ref (mm 32), .ref (mm 33), .ref (mm 34), .ref (mm 35), .ref (mm 36), .int 0, .ref (mm 37), .ref (mm 38), .ref (mm 39), .ref (mm 40), .int 0, .ref (mm 41), .ref (mm 42), .ref (mm 43), .ref (mm 44), .ref (mm 45), .int 0, .ref (mm 46), .ref (mm 47), .ref (mm 48), .int 0, .int 0, .ref (mm 49), .int 0, .ref (mm 50), .int 0, .ref (mm 51), .int 0, .int (-1), .int 1, .int 0, .int 0, .long 0, .ref (mm 52), .long 0, .long 0, .long 0, .int 0, .int 0, .int 0, .int 0, .int 0, .int 0, .int 0, .int 0, .int 0, .int 0, .long 0, .long 0, .int 0, .long 0, .int 0, .long 0, .long 0, .int 0, .int 0, .ref (mm 53), .int 0, .int 0, .int 0, .int 0, .int 0, .ref (mm 54), .int 0, .ref (mm 55), .ref (mm 56), .int 0, .int 0, .ref (mm 57), .int 0, .int 0, .int 0, .ref (mm 58), .int 0, .ref (mm 59), .int 0])), ((mm 0), .inl ((kk 0), 128, .inr (.inl q2))), ((mm 1), .inl ((kk 1), 128, .inr (.inl q3))), ((mm 2), .inl ((kk 2), 128, .inl q4)), ((mm 3), .inl ((kk 3), 128, .inl q5)), ((mm 4), .inl ((kk 4), 128, .inl q6))] H := hP
  have hD : va_D A [(h0, .inr (10, [.int 0, .ref (mm 0), .ref (mm 1), .ref (mm 2), .ref (mm 3), .ref (mm 4), .int y1, .ref (mm 5), .ref (mm 6), .int 0, .int 0, .ref (mm 7), .ref (mm 8), .int 0, .ref (mm 9), .ref (mm 10), .ref (mm 11), .ref (mm 12), .ref (mm 13), .ref (mm 14), .ref (mm 15), .ref (mm 16), .ref (mm 17), .ref (mm 18), .ref (mm 19), .ref (mm 20), .ref (mm 21), .ref (mm 22), .ref (mm 23), .ref (mm 24), .ref (mm 25), .int 0, .ref (mm 26), .int 0, .ref (mm 27), .ref (mm 28), .int 0, .ref (mm 29), .ref (mm 30), .ref (mm 31), .ref (mm 32), .ref (mm 33), .ref (mm 34), .ref (mm 35), .ref (mm 36), .int 0, .ref (mm 37), .ref (mm 38), .ref (mm 39), .ref (mm 40), .int 0, .ref (mm 41), .ref (mm 42), .ref (mm 43), .ref (mm 44), .ref (mm 45), .int 0, .ref (mm 46), .ref (mm 47), .ref (mm 48), .int 0, .int 0, .ref (mm 49), .int 0, .ref (mm 50), .int 0, .ref (mm 51), .int 0, .int (-1), .int 1, .int 0, .int 0, .long 0, .ref (mm 52), .long 0, .long 0, .long 0, .int 0, .int 0, .int 0, .int 0, .int 0, .int 0, .int 0, .int 0, .int 0, .int 0, .long 0, .long 0, .int 0, .long 0, .int 0, .long 0, .long 0, .int 0, .int 0, .ref (mm 53), .int 0, .int 0, .int 0, .int 0, .int 0, .ref (mm 54), .int 0, .ref (mm 55), .ref (mm 56), .int 0, .int 0, .ref (mm 57), .int 0, .int 0, .int 0, .ref (mm 58), .int 0, .ref (mm 59), .int 0])), ((mm 0), .inl ((kk 0), 128, .inr (.inl q2))), ((mm 1), .inl ((kk 1), 128, .inr (.inl q3))), ((mm 2), .inl ((kk 2), 128, .inl q4)), ((mm 3), .inl ((kk 3), 128, .inl q5)), ((mm 4), .inl ((kk 4), 128, .inl q6))] := hD
  have hK : va_K (dC, dI) classes [((kk 0), .long), ((kk 1), .long), ((kk 2), .int), ((kk 3), .int), ((kk 4), .boolean)] s := hK
  have hw7 := hw
  try dsimp only at hw7
  subst hdv
  obtain rfl := hw7
  exact kont H locs ⟨q2, q3, q4, q5, q6, hP, hD, hS⟩

set_option maxHeartbeats 4000000 in
set_option maxRecDepth 100000 in
/-- names1 -/
theorem c_MO_names1 (l : Launch) (dC : Nat → ClassId) (dI : Nat → Nat → Nat) (sz : Nat) (h0 : Nat) (m_nameA : Nat) (m_nameB : Nat) (m_least : Nat) (m_most : Nat) (m_heavy : Nat) (m_heap : Nat) (m_heap2 : Nat) (m_order : Nat) (m_kFree : Nat) (m_kAt : Nat) (m_kLen : Nat) (m_kSort : Nat) (m_kTime : Nat) (m_kTimed : Nat) (m_kHead : Nat) (m_kTail : Nat) (m_kMany : Nat) (m_tAt : Nat) (m_tLen : Nat) (m_eNext : Nat) (m_ePrev : Nat) (m_eAt : Nat) (m_eLen : Nat) (m_vAt : Nat) (m_vLen : Nat) (m_eScore : Nat) (m_req : Nat) (m_aAt : Nat) (m_aLen : Nat) (m_opened : Nat) (m_input : Nat) (m_inSize : Nat) (m_output : Nat) (m_outSize : Nat) (m_blocked : Nat) (m_spoilt : Nat) (m_queue : Nat) (m_queuedAt : Nat) (m_queued : Nat) (m_watches : Nat) (m_watchText : Nat) (m_watchAt : Nat) (m_watchLen : Nat) (m_disturbed : Nat) (m_channels : Nat) (m_channelText : Nat) (m_channelAt : Nat) (m_channelLen : Nat) (m_answer : Nat) (m_digits : Nat) (m_disk : Nat) (m_pending : Nat) (m_spelt : Nat) (m_work : Nat) (m_pile : Nat) (m_mAt : Nat) (m_mLen : Nat) (m_held : Nat) (m_tape : Nat) (m_line0 : Nat) (k_nameA : ClassId) (k_nameB : ClassId) (k_least : ClassId) (k_most : ClassId) (k_heavy : ClassId) (g_nameA : Nat → Int64) (g_nameB : Nat → Int64) (g_least : Nat → Int32) (g_most : Nat → Int32) (g_heavy : Nat → Int32) : Met l yX13_names1 wX13_names1 ({ frames := 1, cells := 0, slots := 0, locals := 27 }) (va_Pc [.ref h0] (pW (dC, dI) [(h0, .inr (10, [.int 0, .ref m_nameA, .ref m_nameB, .ref m_least, .ref m_most, .ref m_heavy, .int 0, .ref m_heap, .ref m_heap2, .int 0, .int 0, .ref m_order, .ref m_kFree, .int 0, .ref m_kAt, .ref m_kLen, .ref m_kSort, .ref m_kTime, .ref m_kTimed, .ref m_kHead, .ref m_kTail, .ref m_kMany, .ref m_tAt, .ref m_tLen, .ref m_eNext, .ref m_ePrev, .ref m_eAt, .ref m_eLen, .ref m_vAt, .ref m_vLen, .ref m_eScore, .int 0, .ref m_req, .int 0, .ref m_aAt, .ref m_aLen, .int 0, .ref m_opened, .ref m_input, .ref m_inSize, .ref m_output, .ref m_outSize, .ref m_blocked, .ref m_spoilt, .ref m_queue, .int 0, .ref m_queuedAt, .ref m_queued, .ref m_watches, .ref m_watchText, .int 0, .ref m_watchAt, .ref m_watchLen, .ref m_disturbed, .ref m_channels, .ref m_channelText, .int 0, .ref m_channelAt, .ref m_channelLen, .ref m_answer, .int 0, .int 0, .ref m_digits, .int 0, .ref m_disk, .int 0, .ref m_pending, .int 0, .int (-1), .int 1, .int 0, .int 0, .long 0, .ref m_spelt, .long 0, .long 0, .long 0, .int 0, .int 0, .int 0, .int 0, .int 0, .int 0, .int 0, .int 0, .int 0, .int 0, .long 0, .long 0, .int 0, .long 0, .int 0, .long 0, .long 0, .int 0, .int 0, .ref m_work, .int 0, .int 0, .int 0, .int 0, .int 0, .ref m_pile, .int 0, .ref m_mAt, .ref m_mLen, .int 0, .int 0, .ref m_held, .int 0, .int 0, .int 0, .ref m_tape, .int 0, .ref m_line0, .int 0])), (m_nameA, .inl (k_nameA, 128, .inr (.inl g_nameA))), (m_nameB, .inl (k_nameB, 128, .inr (.inl g_nameB))), (m_least, .inl (k_least, 128, .inl g_least)), (m_most, .inl (k_most, 128, .inl g_most)), (m_heavy, .inl (k_heavy, 128, .inl g_heavy))] [(k_nameA, .long), (k_nameB, .long), (k_least, .int), (k_most, .int), (k_heavy, .boolean)] sz)) (va_Qv (fun (_u : Unit) => True) (fun (_u : Unit) (t : State) => bW (dC, dI) [(h0, .inr (10, [.int 0, .ref m_nameA, .ref m_nameB, .ref m_least, .ref m_most, .ref m_heavy, .int 105, .ref m_heap, .ref m_heap2, .int 0, .int 0, .ref m_order, .ref m_kFree, .int 0, .ref m_kAt, .ref m_kLen, .ref m_kSort, .ref m_kTime, .ref m_kTimed, .ref m_kHead, .ref m_kTail, .ref m_kMany, .ref m_tAt, .ref m_tLen, .ref m_eNext, .ref m_ePrev, .ref m_eAt, .ref m_eLen, .ref m_vAt, .ref m_vLen, .ref m_eScore, .int 0, .ref m_req, .int 0, .ref m_aAt, .ref m_aLen, .int 0, .ref m_opened, .ref m_input, .ref m_inSize, .ref m_output, .ref m_outSize, .ref m_blocked, .ref m_spoilt, .ref m_queue, .int 0, .ref m_queuedAt, .ref m_queued, .ref m_watches, .ref m_watchText, .int 0, .ref m_watchAt, .ref m_watchLen, .ref m_disturbed, .ref m_channels, .ref m_channelText, .int 0, .ref m_channelAt, .ref m_channelLen, .ref m_answer, .int 0, .int 0, .ref m_digits, .int 0, .ref m_disk, .int 0, .ref m_pending, .int 0, .int (-1), .int 1, .int 0, .int 0, .long 0, .ref m_spelt, .long 0, .long 0, .long 0, .int 0, .int 0, .int 0, .int 0, .int 0, .int 0, .int 0, .int 0, .int 0, .int 0, .long 0, .long 0, .int 0, .long 0, .int 0, .long 0, .long 0, .int 0, .int 0, .ref m_work, .int 0, .int 0, .int 0, .int 0, .int 0, .ref m_pile, .int 0, .ref m_mAt, .ref m_mLen, .int 0, .int 0, .ref m_held, .int 0, .int 0, .int 0, .ref m_tape, .int 0, .ref m_line0, .int 0]))] [] (va_A [(h0, .inr (10, [.int 0, .ref m_nameA, .ref m_nameB, .ref m_least, .ref m_most, .ref m_heavy, .int 0, .ref m_heap, .ref m_heap2, .int 0, .int 0, .ref m_order, .ref m_kFree, .int 0, .ref m_kAt, .ref m_kLen, .ref m_kSort, .ref m_kTime, .ref m_kTimed, .ref m_kHead, .ref m_kTail, .ref m_kMany, .ref m_tAt, .ref m_tLen, .ref m_eNext, .ref m_ePrev, .ref m_eAt, .ref m_eLen, .ref m_vAt, .ref m_vLen, .ref m_eScore, .int 0, .ref m_req, .int 0, .ref m_aAt, .ref m_aLen, .int 0, .ref m_opened, .ref m_input, .ref m_inSize, .ref m_output, .ref m_outSize, .ref m_blocked, .ref m_spoilt, .ref m_queue, .int 0, .ref m_queuedAt, .ref m_queued, .ref m_watches, .ref m_watchText, .int 0, .ref m_watchAt, .ref m_watchLen, .ref m_disturbed, .ref m_channels, .ref m_channelText, .int 0, .ref m_channelAt, .ref m_channelLen, .ref m_answer, .int 0, .int 0, .ref m_digits, .int 0, .ref m_disk, .int 0, .ref m_pending, .int 0, .int (-1), .int 1, .int 0, .int 0, .long 0, .ref m_spelt, .long 0, .long 0, .long 0, .int 0, .int 0, .int 0, .int 0, .int 0, .int 0, .int 0, .int 0, .int 0, .int 0, .long 0, .long 0, .int 0, .long 0, .int 0, .long 0, .long 0, .int 0, .int 0, .ref m_work, .int 0, .int 0, .int 0, .int 0, .int 0, .ref m_pile, .int 0, .ref m_mAt, .ref m_mLen, .int 0, .int 0, .ref m_held, .int 0, .int 0, .int 0, .ref m_tape, .int 0, .ref m_line0, .int 0])), (m_nameA, .inl (k_nameA, 128, .inr (.inl g_nameA))), (m_nameB, .inl (k_nameB, 128, .inr (.inl g_nameB))), (m_least, .inl (k_least, 128, .inl g_least)), (m_most, .inl (k_most, 128, .inl g_most)), (m_heavy, .inl (k_heavy, 128, .inl g_heavy))] sz) t) (va_A [(h0, .inr (10, [.int 0, .ref m_nameA, .ref m_nameB, .ref m_least, .ref m_most, .ref m_heavy, .int 0, .ref m_heap, .ref m_heap2, .int 0, .int 0, .ref m_order, .ref m_kFree, .int 0, .ref m_kAt, .ref m_kLen, .ref m_kSort, .ref m_kTime, .ref m_kTimed, .ref m_kHead, .ref m_kTail, .ref m_kMany, .ref m_tAt, .ref m_tLen, .ref m_eNext, .ref m_ePrev, .ref m_eAt, .ref m_eLen, .ref m_vAt, .ref m_vLen, .ref m_eScore, .int 0, .ref m_req, .int 0, .ref m_aAt, .ref m_aLen, .int 0, .ref m_opened, .ref m_input, .ref m_inSize, .ref m_output, .ref m_outSize, .ref m_blocked, .ref m_spoilt, .ref m_queue, .int 0, .ref m_queuedAt, .ref m_queued, .ref m_watches, .ref m_watchText, .int 0, .ref m_watchAt, .ref m_watchLen, .ref m_disturbed, .ref m_channels, .ref m_channelText, .int 0, .ref m_channelAt, .ref m_channelLen, .ref m_answer, .int 0, .int 0, .ref m_digits, .int 0, .ref m_disk, .int 0, .ref m_pending, .int 0, .int (-1), .int 1, .int 0, .int 0, .long 0, .ref m_spelt, .long 0, .long 0, .long 0, .int 0, .int 0, .int 0, .int 0, .int 0, .int 0, .int 0, .int 0, .int 0, .int 0, .long 0, .long 0, .int 0, .long 0, .int 0, .long 0, .long 0, .int 0, .int 0, .ref m_work, .int 0, .int 0, .int 0, .int 0, .int 0, .ref m_pile, .int 0, .ref m_mAt, .ref m_mLen, .int 0, .int 0, .ref m_held, .int 0, .int 0, .int 0, .ref m_tape, .int 0, .ref m_line0, .int 0])), (m_nameA, .inl (k_nameA, 128, .inr (.inl g_nameA))), (m_nameB, .inl (k_nameB, 128, .inr (.inl g_nameB))), (m_least, .inl (k_least, 128, .inl g_least)), (m_most, .inl (k_most, 128, .inl g_most)), (m_heavy, .inl (k_heavy, 128, .inl g_heavy))] sz)) 0 0 (va_A [(h0, .inr (10, [.int 0, .ref m_nameA, .ref m_nameB, .ref m_least, .ref m_most, .ref m_heavy, .int 0, .ref m_heap, .ref m_heap2, .int 0, .int 0, .ref m_order, .ref m_kFree, .int 0, .ref m_kAt, .ref m_kLen, .ref m_kSort, .ref m_kTime, .ref m_kTimed, .ref m_kHead, .ref m_kTail, .ref m_kMany, .ref m_tAt, .ref m_tLen, .ref m_eNext, .ref m_ePrev, .ref m_eAt, .ref m_eLen, .ref m_vAt, .ref m_vLen, .ref m_eScore, .int 0, .ref m_req, .int 0, .ref m_aAt, .ref m_aLen, .int 0, .ref m_opened, .ref m_input, .ref m_inSize, .ref m_output, .ref m_outSize, .ref m_blocked, .ref m_spoilt, .ref m_queue, .int 0, .ref m_queuedAt, .ref m_queued, .ref m_watches, .ref m_watchText, .int 0, .ref m_watchAt, .ref m_watchLen, .ref m_disturbed, .ref m_channels, .ref m_channelText, .int 0, .ref m_channelAt, .ref m_channelLen, .ref m_answer, .int 0, .int 0, .ref m_digits, .int 0, .ref m_disk, .int 0, .ref m_pending, .int 0, .int (-1), .int 1, .int 0, .int 0, .long 0, .ref m_spelt, .long 0, .long 0, .long 0, .int 0, .int 0, .int 0, .int 0, .int 0, .int 0, .int 0, .int 0, .int 0, .int 0, .long 0, .long 0, .int 0, .long 0, .int 0, .long 0, .long 0, .int 0, .int 0, .ref m_work, .int 0, .int 0, .int 0, .int 0, .int 0, .ref m_pile, .int 0, .ref m_mAt, .ref m_mLen, .int 0, .int 0, .ref m_held, .int 0, .int 0, .int 0, .ref m_tape, .int 0, .ref m_line0, .int 0])), (m_nameA, .inl (k_nameA, 128, .inr (.inl g_nameA))), (m_nameB, .inl (k_nameB, 128, .inr (.inl g_nameB))), (m_least, .inl (k_least, 128, .inl g_least)), (m_most, .inl (k_most, 128, .inl g_most)), (m_heavy, .inl (k_heavy, 128, .inl g_heavy))] sz) := by
  refine Met.ofW (cc := cX13_names1) (maxL := 1) (ret := none) (by decide) rfl ?_
  intro p e s m args below meth c s₁ B hml hv
  obtain ⟨rfl, hsz, hP, hK, hD0, hfx⟩ := hv
  have hx := B.exec
  have hb := B.bytes
  have hr := B.returns
  have hts := atoms_spec (ws := wX13_names1) B.pre
  have hkw : ∀ w ∈ kw, w.before _ s = true := fun w h => hts w (List.mem_cons_of_mem _ h)
  have hown : s.vm.findClass RX13 = some m.cls := findClass_of_methodNamed B.named
  have hlocks := B.notSynchronized
  subst hsz
  have hD := hD0.self (sz := s.heap.size)
  generalize hAe : va_A [(h0, .inr (10, [.int 0, .ref m_nameA, .ref m_nameB, .ref m_least, .ref m_most, .ref m_heavy, .int 0, .ref m_heap, .ref m_heap2, .int 0, .int 0, .ref m_order, .ref m_kFree, .int 0, .ref m_kAt, .ref m_kLen, .ref m_kSort, .ref m_kTime, .ref m_kTimed, .ref m_kHead, .ref m_kTail, .ref m_kMany, .ref m_tAt, .ref m_tLen, .ref m_eNext, .ref m_ePrev, .ref m_eAt, .ref m_eLen, .ref m_vAt, .ref m_vLen, .ref m_eScore, .int 0, .ref m_req, .int 0, .ref m_aAt, .ref m_aLen, .int 0, .ref m_opened, .ref m_input, .ref m_inSize, .ref m_output, .ref m_outSize, .ref m_blocked, .ref m_spoilt, .ref m_queue, .int 0, .ref m_queuedAt, .ref m_queued, .ref m_watches, .ref m_watchText, .int 0, .ref m_watchAt, .ref m_watchLen, .ref m_disturbed, .ref m_channels, .ref m_channelText, .int 0, .ref m_channelAt, .ref m_channelLen, .ref m_answer, .int 0, .int 0, .ref m_digits, .int 0, .ref m_disk, .int 0, .ref m_pending, .int 0, .int (-1), .int 1, .int 0, .int 0, .long 0, .ref m_spelt, .long 0, .long 0, .long 0, .int 0, .int 0, .int 0, .int 0, .int 0, .int 0, .int 0, .int 0, .int 0, .int 0, .long 0, .long 0, .int 0, .long 0, .int 0, .long 0, .long 0, .int 0, .int 0, .ref m_work, .int 0, .int 0, .int 0, .int 0, .int 0, .ref m_pile, .int 0, .ref m_mAt, .ref m_mLen, .int 0, .int 0, .ref m_held, .int 0, .int 0, .int 0, .ref m_tape, .int 0, .ref m_line0, .int 0])), (m_nameA, .inl (k_nameA, 128, .inr (.inl g_nameA))), (m_nameB, .inl (k_nameB, 128, .inr (.inl g_nameB))), (m_least, .inl (k_least, 128, .inl g_least)), (m_most, .inl (k_most, 128, .inl g_most)), (m_heavy, .inl (k_heavy, 128, .inl g_heavy))] s.heap.size = A at hD ⊢
  have hA : ∀ q : Nat, s.heap.size ≤ q → A q := fun q h => by rw [← hAe]; exact Or.inr h
  have hS : va_S A s.heap s.heap [] := va_S.rf
  have hP : va_P (dC, dI) classes [(h0, .inr (10, [.int 0, .ref m_nameA, .ref m_nameB, .ref m_least, .ref m_most, .ref m_heavy, .int 0, .ref m_heap, .ref m_heap2, .int 0, .int 0, .ref m_order, .ref m_kFree, .int 0, .ref m_kAt, .ref m_kLen, .ref m_kSort, .ref m_kTime, .ref m_kTimed, .ref m_kHead, .ref m_kTail, .ref m_kMany, .ref m_tAt, .ref m_tLen, .ref m_eNext, .ref m_ePrev, .ref m_eAt, .ref m_eLen, .ref m_vAt, .ref m_vLen, .ref m_eScore, .int 0, .ref m_req, .int 0, .ref m_aAt, .ref m_aLen, .int 0, .ref m_opened, .ref m_input, .ref m_inSize, .ref m_output, .ref m_outSize, .ref m_blocked, .ref m_spoilt, .ref m_queue, .int 0, .ref m_queuedAt, .ref m_queued, .ref m_watches, .ref m_watchText, .int 0, .ref m_watchAt, .ref m_watchLen, .ref m_disturbed, .ref m_channels, .ref m_channelText, .int 0, .ref m_channelAt, .ref m_channelLen, .ref m_answer, .int 0, .int 0, .ref m_digits, .int 0, .ref m_disk, .int 0, .ref m_pending, .int 0, .int (-1), .int 1, .int 0, .int 0, .long 0, .ref m_spelt, .long 0, .long 0, .long 0, .int 0, .int 0, .int 0, .int 0, .int 0, .int 0, .int 0, .int 0, .int 0, .int 0, .long 0, .long 0, .int 0, .long 0, .int 0, .long 0, .long 0, .int 0, .int 0, .ref m_work, .int 0, .int 0, .int 0, .int 0, .int 0, .ref m_pile, .int 0, .ref m_mAt, .ref m_mLen, .int 0, .int 0, .ref m_held, .int 0, .int 0, .int 0, .ref m_tape, .int 0, .ref m_line0, .int 0])), (m_nameA, .inl (k_nameA, 128, .inr (.inl g_nameA))), (m_nameB, .inl (k_nameB, 128, .inr (.inl g_nameB))), (m_least, .inl (k_least, 128, .inl g_least)), (m_most, .inl (k_most, 128, .inl g_most)), (m_heavy, .inl (k_heavy, 128, .inl g_heavy))] s.heap := hP
  have hl := lv_entry ([.ref h0]) (n := 1) (Nat.le_of_ble_eq_true rfl)
  rw [lg_entry_eq]
  generalize (lg_sl ([.ref h0]) ++ List.replicate (1 - (lg_sl ([.ref h0])).length) Slot.unset).toArray = ls at hl ⊢
  have hl : lv_has ls 1 [(0, .ref h0)] := hl
  obtain ⟨mm, hmm⟩ : ∃ f : Nat → Nat, f = (fun k => ([m_nameA, m_nameB, m_least, m_most, m_heavy, m_heap, m_heap2, m_order, m_kFree, m_kAt, m_kLen, m_kSort, m_kTime, m_kTimed, m_kHead, m_kTail, m_kMany, m_tAt, m_tLen, m_eNext, m_ePrev, m_eAt, m_eLen, m_vAt, m_vLen, m_eScore, m_req, m_aAt, m_aLen, m_opened, m_input, m_inSize, m_output, m_outSize, m_blocked, m_spoilt, m_queue, m_queuedAt, m_queued, m_watches, m_watchText, m_watchAt, m_watchLen, m_disturbed, m_channels, m_channelText, m_channelAt, m_channelLen, m_answer, m_digits, m_disk, m_pending, m_spelt, m_work, m_pile, m_mAt, m_mLen, m_held, m_tape, m_line0] : List Nat).getD k 0) := ⟨_, rfl⟩
  obtain ⟨kk, hkk⟩ : ∃ f : Nat → ClassId, f = (fun k => match k with | 0 => k_nameA | 1 => k_nameB | 2 => k_least | 3 => k_most | _ => k_heavy) := ⟨_, rfl⟩
  have hw : n1W dC dI A s h0 mm kk 0 s.heap [] := by subst hmm; subst hkk; exact ⟨_, _, _, _, _, hP, hD, hS⟩
  have hK0 : va_K (dC, dI) classes [((kk 0), .long), ((kk 1), .long), ((kk 2), .int), ((kk 3), .int), ((kk 4), .boolean)] s := by subst hkk; exact hK
  refine lv_aload_n hx hb dX13_names1_0 rfl (lv_at hl 0 rfl) ?_
  refine lv_ldc2 (v := 4670804) hx hb hown (hkw _ m_249) dX13_names1_1 ?_
  refine lv_lconst (v := 0) hx hb dX13_names1_4 (by decide) ?_
  refine lv_iconst (v := 1) hx hb dX13_names1_5 (by decide) ?_
  refine lv_iconst (v := 1) hx hb dX13_names1_6 (by decide) ?_
  refine lv_iconst (v := 0) hx hb dX13_names1_7 (by decide) ?_
  refine n1_step (dv := 0) (dv' := 1) hx hb hml hown hkw hfx hA (by decide) (by unfold vp_in; decide) hK0 hw hl (Nat.le_of_ble_eq_true rfl) (Nat.le_of_ble_eq_true rfl) dX13_names1_8 (fun H locs hw => ?_)
  refine lv_aload_n hx hb dX13_names1_11 rfl (lv_at hl 0 rfl) ?_
  refine lv_ldc2 (v := 5457236) hx hb hown (hkw _ m_255) dX13_names1_12 ?_
  refine lv_lconst (v := 0) hx hb dX13_names1_15 (by decide) ?_
  refine lv_iconst (v := 2) hx hb dX13_names1_16 (by decide) ?_
  refine lv_iconst (v := (-1)) hx hb dX13_names1_17 (by decide) ?_
  refine lv_iconst (v := 1) hx hb dX13_names1_18 (by decide) ?_
  refine n1_step (dv := 1) (dv' := 2) hx hb hml hown hkw hfx hA (by decide) (by unfold vp_in; decide) hK0 hw hl (Nat.le_of_ble_eq_true rfl) (Nat.le_of_ble_eq_true rfl) dX13_names1_19 (fun H locs hw => ?_)
  refine lv_aload_n hx hb dX13_names1_22 rfl (lv_at hl 0 rfl) ?_
  refine lv_ldc2 (v := 78363092075852) hx hb hown (hkw _ m_256) dX13_names1_23 ?_
  refine lv_lconst (v := 0) hx hb dX13_names1_26 (by decide) ?_
  refine lv_iconst (v := 1) hx hb dX13_names1_27 (by decide) ?_
  refine lv_iconst (v := 1) hx hb dX13_names1_28 (by decide) ?_
  refine lv_iconst (v := 0) hx hb dX13_names1_29 (by decide) ?_
  refine n1_step (dv := 2) (dv' := 3) hx hb hml hown hkw hfx hA (by decide) (by unfold vp_in; decide) hK0 hw hl (Nat.le_of_ble_eq_true rfl) (Nat.le_of_ble_eq_true rfl) dX13_names1_30 (fun H locs hw => ?_)
  refine lv_aload_n hx hb dX13_names1_33 rfl (lv_at hl 0 rfl) ?_
  refine lv_ldc2 (v := 78363093058900) hx hb hown (hkw _ m_257) dX13_names1_34 ?_
  refine lv_lconst (v := 0) hx hb dX13_names1_37 (by decide) ?_
  refine lv_iconst (v := 2) hx hb dX13_names1_38 (by decide) ?_
  refine lv_iconst (v := 2) hx hb dX13_names1_39 (by decide) ?_
  refine lv_iconst (v := 1) hx hb dX13_names1_40 (by decide) ?_
  refine n1_step (dv := 3) (dv' := 4) hx hb hml hown hkw hfx hA (by decide) (by unfold vp_in; decide) hK0 hw hl (Nat.le_of_ble_eq_true rfl) (Nat.le_of_ble_eq_true rfl) dX13_names1_41 (fun H locs hw => ?_)
  refine lv_aload_n hx hb dX13_names1_44 rfl (lv_at hl 0 rfl) ?_
  refine lv_ldc2 (v := 357645438552) hx hb hown (hkw _ m_258) dX13_names1_45 ?_
  refine lv_lconst (v := 0) hx hb dX13_names1_48 (by decide) ?_
  refine lv_iconst (v := 2) hx hb dX13_names1_49 (by decide) ?_
  refine lv_iconst (v := 2) hx hb dX13_names1_50 (by decide) ?_
  refine lv_iconst (v := 1) hx hb dX13_names1_51 (by decide) ?_
  refine n1_step (dv := 4) (dv' := 5) hx hb hml hown hkw hfx hA (by decide) (by unfold vp_in; decide) hK0 hw hl (Nat.le_of_ble_eq_true rfl) (Nat.le_of_ble_eq_true rfl) dX13_names1_52 (fun H locs hw => ?_)
  refine lv_aload_n hx hb dX13_names1_55 rfl (lv_at hl 0 rfl) ?_
  refine lv_ldc2 (v := 357645436248) hx hb hown (hkw _ m_259) dX13_names1_56 ?_
  refine lv_lconst (v := 0) hx hb dX13_names1_59 (by decide) ?_
  refine lv_iconst (v := 3) hx hb dX13_names1_60 (by decide) ?_
  refine lv_iconst (v := 3) hx hb dX13_names1_61 (by decide) ?_
  refine lv_iconst (v := 1) hx hb dX13_names1_62 (by decide) ?_
  refine n1_step (dv := 5) (dv' := 6) hx hb hml hown hkw hfx hA (by decide) (by unfold vp_in; decide) hK0 hw hl (Nat.le_of_ble_eq_true rfl) (Nat.le_of_ble_eq_true rfl) dX13_names1_63 (fun H locs hw => ?_)
  refine lv_aload_n hx hb dX13_names1_66 rfl (lv_at hl 0 rfl) ?_
  refine lv_ldc2 (v := 88318575658328) hx hb hown (hkw _ m_260) dX13_names1_67 ?_
  refine lv_lconst (v := 0) hx hb dX13_names1_70 (by decide) ?_
  refine lv_iconst (v := 3) hx hb dX13_names1_71 (by decide) ?_
  refine lv_iconst (v := 3) hx hb dX13_names1_72 (by decide) ?_
  refine lv_iconst (v := 1) hx hb dX13_names1_73 (by decide) ?_
  refine n1_step (dv := 6) (dv' := 7) hx hb hml hown hkw hfx hA (by decide) (by unfold vp_in; decide) hK0 hw hl (Nat.le_of_ble_eq_true rfl) (Nat.le_of_ble_eq_true rfl) dX13_names1_74 (fun H locs hw => ?_)
  refine lv_aload_n hx hb dX13_names1_77 rfl (lv_at hl 0 rfl) ?_
  refine lv_ldc2 (v := 1296516436) hx hb hown (hkw _ m_261) dX13_names1_78 ?_
  refine lv_lconst (v := 0) hx hb dX13_names1_81 (by decide) ?_
  refine lv_iconst (v := 1) hx hb dX13_names1_82 (by decide) ?_
  refine lv_iconst (v := (-1)) hx hb dX13_names1_83 (by decide) ?_
  refine lv_iconst (v := 0) hx hb dX13_names1_84 (by decide) ?_
  refine n1_step (dv := 7) (dv' := 8) hx hb hml hown hkw hfx hA (by decide) (by unfold vp_in; decide) hK0 hw hl (Nat.le_of_ble_eq_true rfl) (Nat.le_of_ble_eq_true rfl) dX13_names1_85 (fun H locs hw => ?_)
  refine lv_aload_n hx hb dX13_names1_88 rfl (lv_at hl 0 rfl) ?_
  refine lv_ldc2 (v := 1297302868) hx hb hown (hkw _ m_262) dX13_names1_89 ?_
  refine lv_lconst (v := 0) hx hb dX13_names1_92 (by decide) ?_
  refine lv_iconst (v := 2) hx hb dX13_names1_93 (by decide) ?_
  refine lv_iconst (v := (-1)) hx hb dX13_names1_94 (by decide) ?_
  refine lv_iconst (v := 1) hx hb dX13_names1_95 (by decide) ?_
  refine n1_step (dv := 8) (dv' := 9) hx hb hml hown hkw hfx hA (by decide) (by unfold vp_in; decide) hK0 hw hl (Nat.le_of_ble_eq_true rfl) (Nat.le_of_ble_eq_true rfl) dX13_names1_96 (fun H locs hw => ?_)
  refine lv_aload_n hx hb dX13_names1_99 rfl (lv_at hl 0 rfl) ?_
  refine lv_ldc2 (v := 85020040777304) hx hb hown (hkw _ m_263) dX13_names1_100 ?_
  refine lv_lconst (v := 0) hx hb dX13_names1_103 (by decide) ?_
  refine lv_iconst (v := 2) hx hb dX13_names1_104 (by decide) ?_
  refine lv_iconst (v := (-1)) hx hb dX13_names1_105 (by decide) ?_
  refine lv_iconst (v := 1) hx hb dX13_names1_106 (by decide) ?_
  refine n1_step (dv := 9) (dv' := 10) hx hb hml hown hkw hfx hA (by decide) (by unfold vp_in; decide) hK0 hw hl (Nat.le_of_ble_eq_true rfl) (Nat.le_of_ble_eq_true rfl) dX13_names1_107 (fun H locs hw => ?_)
  refine lv_aload_n hx hb dX13_names1_110 rfl (lv_at hl 0 rfl) ?_
  refine lv_ldc2 (v := 71813199908420) hx hb hown (hkw _ m_264) dX13_names1_111 ?_
  refine lv_lconst (v := 0) hx hb dX13_names1_114 (by decide) ?_
  refine lv_iconst (v := 2) hx hb dX13_names1_115 (by decide) ?_
  refine lv_iconst (v := 2) hx hb dX13_names1_116 (by decide) ?_
  refine lv_iconst (v := 1) hx hb dX13_names1_117 (by decide) ?_
  refine n1_step (dv := 10) (dv' := 11) hx hb hml hown hkw hfx hA (by decide) (by unfold vp_in; decide) hK0 hw hl (Nat.le_of_ble_eq_true rfl) (Nat.le_of_ble_eq_true rfl) dX13_names1_118 (fun H locs hw => ?_)
  refine lv_aload_n hx hb dX13_names1_121 rfl (lv_at hl 0 rfl) ?_
  refine lv_ldc2 (v := 91621623088462) hx hb hown (hkw _ m_265) dX13_names1_122 ?_
  refine lv_lconst (v := 0) hx hb dX13_names1_125 (by decide) ?_
  refine lv_iconst (v := 1) hx hb dX13_names1_126 (by decide) ?_
  refine lv_iconst (v := 1) hx hb dX13_names1_127 (by decide) ?_
  refine lv_iconst (v := 0) hx hb dX13_names1_128 (by decide) ?_
  refine n1_step (dv := 11) (dv' := 12) hx hb hml hown hkw hfx hA (by decide) (by unfold vp_in; decide) hK0 hw hl (Nat.le_of_ble_eq_true rfl) (Nat.le_of_ble_eq_true rfl) dX13_names1_129 (fun H locs hw => ?_)
  refine lv_aload_n hx hb dX13_names1_132 rfl (lv_at hl 0 rfl) ?_
  refine lv_ldc2 (v := 5135603662345619269) hx hb hown (hkw _ m_266) dX13_names1_133 ?_
  refine lv_lconst (v := 0) hx hb dX13_names1_136 (by decide) ?_
  refine lv_iconst (v := 3) hx hb dX13_names1_137 (by decide) ?_
  refine lv_iconst (v := 3) hx hb dX13_names1_138 (by decide) ?_
  refine lv_iconst (v := 0) hx hb dX13_names1_139 (by decide) ?_
  refine n1_step (dv := 12) (dv' := 13) hx hb hml hown hkw hfx hA (by decide) (by unfold vp_in; decide) hK0 hw hl (Nat.le_of_ble_eq_true rfl) (Nat.le_of_ble_eq_true rfl) dX13_names1_140 (fun H locs hw => ?_)
  refine lv_aload_n hx hb dX13_names1_143 rfl (lv_at hl 0 rfl) ?_
  refine lv_ldc2 (v := 6000294790800754501) hx hb hown (hkw _ m_267) dX13_names1_144 ?_
  refine lv_lconst (v := 0) hx hb dX13_names1_147 (by decide) ?_
  refine lv_iconst (v := 3) hx hb dX13_names1_148 (by decide) ?_
  refine lv_iconst (v := 3) hx hb dX13_names1_149 (by decide) ?_
  refine lv_iconst (v := 1) hx hb dX13_names1_150 (by decide) ?_
  refine n1_step (dv := 13) (dv' := 14) hx hb hml hown hkw hfx hA (by decide) (by unfold vp_in; decide) hK0 hw hl (Nat.le_of_ble_eq_true rfl) (Nat.le_of_ble_eq_true rfl) dX13_names1_151 (fun H locs hw => ?_)
  refine lv_aload_n hx hb dX13_names1_154 rfl (lv_at hl 0 rfl) ?_
  refine lv_ldc2 (v := 1229865810) hx hb hown (hkw _ m_268) dX13_names1_155 ?_
  refine lv_lconst (v := 0) hx hb dX13_names1_158 (by decide) ?_
  refine lv_iconst (v := 1) hx hb dX13_names1_159 (by decide) ?_
  refine lv_iconst (v := 1) hx hb dX13_names1_160 (by decide) ?_
  refine lv_iconst (v := 1) hx hb dX13_names1_161 (by decide) ?_
  refine n1_step (dv := 14) (dv' := 15) hx hb hml hown hkw hfx hA (by decide) (by unfold vp_in; decide) hK0 hw hl (Nat.le_of_ble_eq_true rfl) (Nat.le_of_ble_eq_true rfl) dX13_names1_162 (fun H locs hw => ?_)
  refine lv_aload_n hx hb dX13_names1_165 rfl (lv_at hl 0 rfl) ?_
  refine lv_ldc2 (v := 1145389906) hx hb hown (hkw _ m_269) dX13_names1_166 ?_
  refine lv_lconst (v := 0) hx hb dX13_names1_169 (by decide) ?_
  refine lv_iconst (v := 1) hx hb dX13_names1_170 (by decide) ?_
  refine lv_iconst (v := 1) hx hb dX13_names1_171 (by decide) ?_
  refine lv_iconst (v := 1) hx hb dX13_names1_172 (by decide) ?_
  refine n1_step (dv := 15) (dv' := 16) hx hb hml hown hkw hfx hA (by decide) (by unfold vp_in; decide) hK0 hw hl (Nat.le_of_ble_eq_true rfl) (Nat.le_of_ble_eq_true rfl) dX13_names1_173 (fun H locs hw => ?_)
  refine lv_aload_n hx hb dX13_names1_176 rfl (lv_at hl 0 rfl) ?_
  refine lv_ldc2 (v := 80600485741145) hx hb hown (hkw _ m_270) dX13_names1_177 ?_
  refine lv_lconst (v := 0) hx hb dX13_names1_180 (by decide) ?_
  refine lv_iconst (v := 2) hx hb dX13_names1_181 (by decide) ?_
  refine lv_iconst (v := 2) hx hb dX13_names1_182 (by decide) ?_
  refine lv_iconst (v := 1) hx hb dX13_names1_183 (by decide) ?_
  refine n1_step (dv := 16) (dv' := 17) hx hb hml hown hkw hfx hA (by decide) (by unfold vp_in; decide) hK0 hw hl (Nat.le_of_ble_eq_true rfl) (Nat.le_of_ble_eq_true rfl) dX13_names1_184 (fun H locs hw => ?_)
  refine lv_aload_n hx hb dX13_names1_187 rfl (lv_at hl 0 rfl) ?_
  refine lv_ldc2 (v := 75064272896601) hx hb hown (hkw _ m_271) dX13_names1_188 ?_
  refine lv_lconst (v := 0) hx hb dX13_names1_191 (by decide) ?_
  refine lv_iconst (v := 2) hx hb dX13_names1_192 (by decide) ?_
  refine lv_iconst (v := 2) hx hb dX13_names1_193 (by decide) ?_
  refine lv_iconst (v := 1) hx hb dX13_names1_194 (by decide) ?_
  refine n1_step (dv := 17) (dv' := 18) hx hb hml hown hkw hfx hA (by decide) (by unfold vp_in; decide) hK0 hw hl (Nat.le_of_ble_eq_true rfl) (Nat.le_of_ble_eq_true rfl) dX13_names1_195 (fun H locs hw => ?_)
  refine lv_aload_n hx hb dX13_names1_198 rfl (lv_at hl 0 rfl) ?_
  refine lv_ldc2 (v := 91557231479124) hx hb hown (hkw _ m_272) dX13_names1_199 ?_
  refine lv_lconst (v := 0) hx hb dX13_names1_202 (by decide) ?_
  refine lv_iconst (v := 3) hx hb dX13_names1_203 (by decide) ?_
  refine lv_iconst (v := 3) hx hb dX13_names1_204 (by decide) ?_
  refine lv_iconst (v := 1) hx hb dX13_names1_205 (by decide) ?_
  refine n1_step (dv := 18) (dv' := 19) hx hb hml hown hkw hfx hA (by decide) (by unfold vp_in; decide) hK0 hw hl (Nat.le_of_ble_eq_true rfl) (Nat.le_of_ble_eq_true rfl) dX13_names1_206 (fun H locs hw => ?_)
  refine lv_aload_n hx hb dX13_names1_209 rfl (lv_at hl 0 rfl) ?_
  refine lv_ldc2 (v := 78363091945812) hx hb hown (hkw _ m_273) dX13_names1_210 ?_
  refine lv_lconst (v := 0) hx hb dX13_names1_213 (by decide) ?_
  refine lv_iconst (v := 2) hx hb dX13_names1_214 (by decide) ?_
  refine lv_iconst (v := 2) hx hb dX13_names1_215 (by decide) ?_
  refine lv_iconst (v := 0) hx hb dX13_names1_216 (by decide) ?_
  refine n1_step (dv := 19) (dv' := 20) hx hb hml hown hkw hfx hA (by decide) (by unfold vp_in; decide) hK0 hw hl (Nat.le_of_ble_eq_true rfl) (Nat.le_of_ble_eq_true rfl) dX13_names1_217 (fun H locs hw => ?_)
  refine lv_aload_n hx hb dX13_names1_220 rfl (lv_at hl 0 rfl) ?_
  refine lv_ldc2 (v := 4776441527873654356) hx hb hown (hkw _ m_274) dX13_names1_221 ?_
  refine lv_lconst (v := 0) hx hb dX13_names1_224 (by decide) ?_
  refine lv_iconst (v := 1) hx hb dX13_names1_225 (by decide) ?_
  refine lv_iconst (v := 3) hx hb dX13_names1_226 (by decide) ?_
  refine lv_iconst (v := 0) hx hb dX13_names1_227 (by decide) ?_
  refine n1_step (dv := 20) (dv' := 21) hx hb hml hown hkw hfx hA (by decide) (by unfold vp_in; decide) hK0 hw hl (Nat.le_of_ble_eq_true rfl) (Nat.le_of_ble_eq_true rfl) dX13_names1_228 (fun H locs hw => ?_)
  refine lv_aload_n hx hb dX13_names1_231 rfl (lv_at hl 0 rfl) ?_
  refine lv_ldc2 (v := 4474188) hx hb hown (hkw _ m_275) dX13_names1_232 ?_
  refine lv_lconst (v := 0) hx hb dX13_names1_235 (by decide) ?_
  refine lv_iconst (v := 1) hx hb dX13_names1_236 (by decide) ?_
  refine lv_iconst (v := (-1)) hx hb dX13_names1_237 (by decide) ?_
  refine lv_iconst (v := 0) hx hb dX13_names1_238 (by decide) ?_
  refine n1_step (dv := 21) (dv' := 22) hx hb hml hown hkw hfx hA (by decide) (by unfold vp_in; decide) hK0 hw hl (Nat.le_of_ble_eq_true rfl) (Nat.le_of_ble_eq_true rfl) dX13_names1_239 (fun H locs hw => ?_)
  refine lv_aload_n hx hb dX13_names1_242 rfl (lv_at hl 0 rfl) ?_
  refine lv_ldc2 (v := 76245489636435) hx hb hown (hkw _ m_276) dX13_names1_243 ?_
  refine lv_lconst (v := 0) hx hb dX13_names1_246 (by decide) ?_
  refine lv_iconst (v := 1) hx hb dX13_names1_247 (by decide) ?_
  refine lv_iconst (v := (-1)) hx hb dX13_names1_248 (by decide) ?_
  refine lv_iconst (v := 0) hx hb dX13_names1_249 (by decide) ?_
  refine n1_step (dv := 22) (dv' := 23) hx hb hml hown hkw hfx hA (by decide) (by unfold vp_in; decide) hK0 hw hl (Nat.le_of_ble_eq_true rfl) (Nat.le_of_ble_eq_true rfl) dX13_names1_250 (fun H locs hw => ?_)
  refine lv_aload_n hx hb dX13_names1_253 rfl (lv_at hl 0 rfl) ?_
  refine lv_ldc2 (v := 1415139397) hx hb hown (hkw _ m_277) dX13_names1_254 ?_
  refine lv_lconst (v := 0) hx hb dX13_names1_257 (by decide) ?_
  refine lv_iconst (v := 1) hx hb dX13_names1_258 (by decide) ?_
  refine lv_iconst (v := 1) hx hb dX13_names1_259 (by decide) ?_
  refine lv_iconst (v := 0) hx hb dX13_names1_260 (by decide) ?_
  refine n1_step (dv := 23) (dv' := 24) hx hb hml hown hkw hfx hA (by decide) (by unfold vp_in; decide) hK0 hw hl (Nat.le_of_ble_eq_true rfl) (Nat.le_of_ble_eq_true rfl) dX13_names1_261 (fun H locs hw => ?_)
  refine lv_aload_n hx hb dX13_names1_264 rfl (lv_at hl 0 rfl) ?_
  refine lv_ldc2 (v := 90457619123525) hx hb hown (hkw _ m_278) dX13_names1_265 ?_
  refine lv_lconst (v := 0) hx hb dX13_names1_268 (by decide) ?_
  refine lv_iconst (v := 2) hx hb dX13_names1_269 (by decide) ?_
  refine lv_iconst (v := 2) hx hb dX13_names1_270 (by decide) ?_
  refine lv_iconst (v := 0) hx hb dX13_names1_271 (by decide) ?_
  refine n1_step (dv := 24) (dv' := 25) hx hb hml hown hkw hfx hA (by decide) (by unfold vp_in; decide) hK0 hw hl (Nat.le_of_ble_eq_true rfl) (Nat.le_of_ble_eq_true rfl) dX13_names1_272 (fun H locs hw => ?_)
  refine lv_aload_n hx hb dX13_names1_275 rfl (lv_at hl 0 rfl) ?_
  refine lv_ldc2 (v := 5928230526879354456) hx hb hown (hkw _ m_279) dX13_names1_276 ?_
  refine lv_lconst (v := 0) hx hb dX13_names1_279 (by decide) ?_
  refine lv_iconst (v := 2) hx hb dX13_names1_280 (by decide) ?_
  refine lv_iconst (v := 2) hx hb dX13_names1_281 (by decide) ?_
  refine lv_iconst (v := 0) hx hb dX13_names1_282 (by decide) ?_
  refine n1_step (dv := 25) (dv' := 26) hx hb hml hown hkw hfx hA (by decide) (by unfold vp_in; decide) hK0 hw hl (Nat.le_of_ble_eq_true rfl) (Nat.le_of_ble_eq_true rfl) dX13_names1_283 (fun H locs hw => ?_)
  refine lv_aload_n hx hb dX13_names1_286 rfl (lv_at hl 0 rfl) ?_
  refine lv_ldc2 (v := 1262836051) hx hb hown (hkw _ m_280) dX13_names1_287 ?_
  refine lv_lconst (v := 0) hx hb dX13_names1_290 (by decide) ?_
  refine lv_iconst (v := 1) hx hb dX13_names1_291 (by decide) ?_
  refine lv_iconst (v := 1) hx hb dX13_names1_292 (by decide) ?_
  refine lv_iconst (v := 0) hx hb dX13_names1_293 (by decide) ?_
  refine n1_step (dv := 26) (dv' := 27) hx hb hml hown hkw hfx hA (by decide) (by unfold vp_in; decide) hK0 hw hl (Nat.le_of_ble_eq_true rfl) (Nat.le_of_ble_eq_true rfl) dX13_names1_294 (fun H locs hw => ?_)
  refine lv_aload_n hx hb dX13_names1_297 rfl (lv_at hl 0 rfl) ?_
  refine lv_ldc2 (v := 75051655846469) hx hb hown (hkw _ m_281) dX13_names1_298 ?_
  refine lv_lconst (v := 0) hx hb dX13_names1_301 (by decide) ?_
  refine lv_iconst (v := 0) hx hb dX13_names1_302 (by decide) ?_
  refine lv_iconst (v := 0) hx hb dX13_names1_303 (by decide) ?_
  refine lv_iconst (v := 0) hx hb dX13_names1_304 (by decide) ?_
  refine n1_step (dv := 27) (dv' := 28) hx hb hml hown hkw hfx hA (by decide) (by unfold vp_in; decide) hK0 hw hl (Nat.le_of_ble_eq_true rfl) (Nat.le_of_ble_eq_true rfl) dX13_names1_305 (fun H locs hw => ?_)
  refine lv_aload_n hx hb dX13_names1_308 rfl (lv_at hl 0 rfl) ?_
  refine lv_ldc2 (v := 5065517497067850828) hx hb hown (hkw _ m_282) dX13_names1_309 ?_
  refine lv_lconst (v := 0) hx hb dX13_names1_312 (by decide) ?_
  refine lv_iconst (v := 0) hx hb dX13_names1_313 (by decide) ?_
  refine lv_iconst (v := 0) hx hb dX13_names1_314 (by decide) ?_
  refine lv_iconst (v := 0) hx hb dX13_names1_315 (by decide) ?_
  refine n1_step (dv := 28) (dv' := 29) hx hb hml hown hkw hfx hA (by decide) (by unfold vp_in; decide) hK0 hw hl (Nat.le_of_ble_eq_true rfl) (Nat.le_of_ble_eq_true rfl) dX13_names1_316 (fun H locs hw => ?_)
  refine lv_aload_n hx hb dX13_names1_319 rfl (lv_at hl 0 rfl) ?_
  refine lv_ldc2 (v := 76245606421061) hx hb hown (hkw _ m_283) dX13_names1_320 ?_
  refine lv_lconst (v := 0) hx hb dX13_names1_323 (by decide) ?_
  refine lv_iconst (v := 2) hx hb dX13_names1_324 (by decide) ?_
  refine lv_iconst (v := 2) hx hb dX13_names1_325 (by decide) ?_
  refine lv_iconst (v := 0) hx hb dX13_names1_326 (by decide) ?_
  refine n1_step (dv := 29) (dv' := 30) hx hb hml hown hkw hfx hA (by decide) (by unfold vp_in; decide) hK0 hw hl (Nat.le_of_ble_eq_true rfl) (Nat.le_of_ble_eq_true rfl) dX13_names1_327 (fun H locs hw => ?_)
  refine lv_aload_n hx hb dX13_names1_330 rfl (lv_at hl 0 rfl) ?_
  refine lv_ldc2 (v := 22594243743273541) hx hb hown (hkw _ m_284) dX13_names1_331 ?_
  refine lv_lconst (v := 0) hx hb dX13_names1_334 (by decide) ?_
  refine lv_iconst (v := 2) hx hb dX13_names1_335 (by decide) ?_
  refine lv_iconst (v := 2) hx hb dX13_names1_336 (by decide) ?_
  refine lv_iconst (v := 0) hx hb dX13_names1_337 (by decide) ?_
  refine n1_step (dv := 30) (dv' := 31) hx hb hml hown hkw hfx hA (by decide) (by unfold vp_in; decide) hK0 hw hl (Nat.le_of_ble_eq_true rfl) (Nat.le_of_ble_eq_true rfl) dX13_names1_338 (fun H locs hw => ?_)
  refine lv_aload_n hx hb dX13_names1_341 rfl (lv_at hl 0 rfl) ?_
  refine lv_ldc2 (v := 4996832062410670420) hx hb hown (hkw _ m_285) dX13_names1_342 ?_
  refine lv_lconst (v := 0) hx hb dX13_names1_345 (by decide) ?_
  refine lv_iconst (v := 2) hx hb dX13_names1_346 (by decide) ?_
  refine lv_iconst (v := 2) hx hb dX13_names1_347 (by decide) ?_
  refine lv_iconst (v := 0) hx hb dX13_names1_348 (by decide) ?_
  refine n1_step (dv := 31) (dv' := 32) hx hb hml hown hkw hfx hA (by decide) (by unfold vp_in; decide) hK0 hw hl (Nat.le_of_ble_eq_true rfl) (Nat.le_of_ble_eq_true rfl) dX13_names1_349 (fun H locs hw => ?_)
  refine lv_aload_n hx hb dX13_names1_352 rfl (lv_at hl 0 rfl) ?_
  refine lv_ldc2 (v := 5784126398278026561) hx hb hown (hkw _ m_286) dX13_names1_353 ?_
  refine lv_ldc2 (v := 84) hx hb hown (hkw _ m_287) dX13_names1_356 ?_
  refine lv_iconst (v := 2) hx hb dX13_names1_359 (by decide) ?_
  refine lv_iconst (v := 2) hx hb dX13_names1_360 (by decide) ?_
  refine lv_iconst (v := 0) hx hb dX13_names1_361 (by decide) ?_
  refine n1_step (dv := 32) (dv' := 33) hx hb hml hown hkw hfx hA (by decide) (by unfold vp_in; decide) hK0 hw hl (Nat.le_of_ble_eq_true rfl) (Nat.le_of_ble_eq_true rfl) dX13_names1_362 (fun H locs hw => ?_)
  refine lv_aload_n hx hb dX13_names1_365 rfl (lv_at hl 0 rfl) ?_
  refine lv_ldc2 (v := 22594218023801684) hx hb hown (hkw _ m_288) dX13_names1_366 ?_
  refine lv_lconst (v := 0) hx hb dX13_names1_369 (by decide) ?_
  refine lv_iconst (v := 1) hx hb dX13_names1_370 (by decide) ?_
  refine lv_iconst (v := 1) hx hb dX13_names1_371 (by decide) ?_
  refine lv_iconst (v := 0) hx hb dX13_names1_372 (by decide) ?_
  refine n1_step (dv := 33) (dv' := 34) hx hb hml hown hkw hfx hA (by decide) (by unfold vp_in; decide) hK0 hw hl (Nat.le_of_ble_eq_true rfl) (Nat.le_of_ble_eq_true rfl) dX13_names1_373 (fun H locs hw => ?_)
  refine lv_aload_n hx hb dX13_names1_376 rfl (lv_at hl 0 rfl) ?_
  refine lv_ldc2 (v := 5526604) hx hb hown (hkw _ m_289) dX13_names1_377 ?_
  refine lv_lconst (v := 0) hx hb dX13_names1_380 (by decide) ?_
  refine lv_iconst (v := 1) hx hb dX13_names1_381 (by decide) ?_
  refine lv_iconst (v := 1) hx hb dX13_names1_382 (by decide) ?_
  refine lv_iconst (v := 0) hx hb dX13_names1_383 (by decide) ?_
  refine n1_step (dv := 34) (dv' := 35) hx hb hml hown hkw hfx hA (by decide) (by unfold vp_in; decide) hK0 hw hl (Nat.le_of_ble_eq_true rfl) (Nat.le_of_ble_eq_true rfl) dX13_names1_384 (fun H locs hw => ?_)
  refine lv_aload_n hx hb dX13_names1_387 rfl (lv_at hl 0 rfl) ?_
  refine lv_ldc2 (v := 1347703884) hx hb hown (hkw _ m_290) dX13_names1_388 ?_
  refine lv_lconst (v := 0) hx hb dX13_names1_391 (by decide) ?_
  refine lv_iconst (v := 1) hx hb dX13_names1_392 (by decide) ?_
  refine lv_iconst (v := 1) hx hb dX13_names1_393 (by decide) ?_
  refine lv_iconst (v := 0) hx hb dX13_names1_394 (by decide) ?_
  refine n1_step (dv := 35) (dv' := 36) hx hb hml hown hkw hfx hA (by decide) (by unfold vp_in; decide) hK0 hw hl (Nat.le_of_ble_eq_true rfl) (Nat.le_of_ble_eq_true rfl) dX13_names1_395 (fun H locs hw => ?_)
  refine lv_aload_n hx hb dX13_names1_398 rfl (lv_at hl 0 rfl) ?_
  refine lv_ldc2 (v := 327765283656) hx hb hown (hkw _ m_291) dX13_names1_399 ?_
  refine lv_lconst (v := 0) hx hb dX13_names1_402 (by decide) ?_
  refine lv_iconst (v := 2) hx hb dX13_names1_403 (by decide) ?_
  refine lv_iconst (v := (-1)) hx hb dX13_names1_404 (by decide) ?_
  refine lv_iconst (v := 1) hx hb dX13_names1_405 (by decide) ?_
  refine n1_step (dv := 36) (dv' := 37) hx hb hml hown hkw hfx hA (by decide) (by unfold vp_in; decide) hK0 hw hl (Nat.le_of_ble_eq_true rfl) (Nat.le_of_ble_eq_true rfl) dX13_names1_406 (fun H locs hw => ?_)
  refine lv_aload_n hx hb dX13_names1_409 rfl (lv_at hl 0 rfl) ?_
  refine lv_ldc2 (v := 353535087432) hx hb hown (hkw _ m_292) dX13_names1_410 ?_
  refine lv_lconst (v := 0) hx hb dX13_names1_413 (by decide) ?_
  refine lv_iconst (v := 2) hx hb dX13_names1_414 (by decide) ?_
  refine lv_iconst (v := (-1)) hx hb dX13_names1_415 (by decide) ?_
  refine lv_iconst (v := 1) hx hb dX13_names1_416 (by decide) ?_
  refine n1_step (dv := 37) (dv' := 38) hx hb hml hown hkw hfx hA (by decide) (by unfold vp_in; decide) hK0 hw hl (Nat.le_of_ble_eq_true rfl) (Nat.le_of_ble_eq_true rfl) dX13_names1_417 (fun H locs hw => ?_)
  refine lv_aload_n hx hb dX13_names1_420 rfl (lv_at hl 0 rfl) ?_
  refine lv_ldc2 (v := 83907912616024) hx hb hown (hkw _ m_293) dX13_names1_421 ?_
  refine lv_lconst (v := 0) hx hb dX13_names1_424 (by decide) ?_
  refine lv_iconst (v := 2) hx hb dX13_names1_425 (by decide) ?_
  refine lv_iconst (v := (-1)) hx hb dX13_names1_426 (by decide) ?_
  refine lv_iconst (v := 1) hx hb dX13_names1_427 (by decide) ?_
  refine n1_step (dv := 38) (dv' := 39) hx hb hml hown hkw hfx hA (by decide) (by unfold vp_in; decide) hK0 hw hl (Nat.le_of_ble_eq_true rfl) (Nat.le_of_ble_eq_true rfl) dX13_names1_428 (fun H locs hw => ?_)
  refine lv_aload_n hx hb dX13_names1_431 rfl (lv_at hl 0 rfl) ?_
  refine lv_ldc2 (v := 90504982382680) hx hb hown (hkw _ m_294) dX13_names1_432 ?_
  refine lv_lconst (v := 0) hx hb dX13_names1_435 (by decide) ?_
  refine lv_iconst (v := 2) hx hb dX13_names1_436 (by decide) ?_
  refine lv_iconst (v := (-1)) hx hb dX13_names1_437 (by decide) ?_
  refine lv_iconst (v := 1) hx hb dX13_names1_438 (by decide) ?_
  refine n1_step (dv := 39) (dv' := 40) hx hb hml hown hkw hfx hA (by decide) (by unfold vp_in; decide) hK0 hw hl (Nat.le_of_ble_eq_true rfl) (Nat.le_of_ble_eq_true rfl) dX13_names1_439 (fun H locs hw => ?_)
  refine lv_aload_n hx hb dX13_names1_442 rfl (lv_at hl 0 rfl) ?_
  refine lv_ldc2 (v := 1280331600) hx hb hown (hkw _ m_295) dX13_names1_443 ?_
  refine lv_lconst (v := 0) hx hb dX13_names1_446 (by decide) ?_
  refine lv_iconst (v := 1) hx hb dX13_names1_447 (by decide) ?_
  refine lv_iconst (v := 2) hx hb dX13_names1_448 (by decide) ?_
  refine lv_iconst (v := 0) hx hb dX13_names1_449 (by decide) ?_
  refine n1_step (dv := 40) (dv' := 41) hx hb hml hown hkw hfx hA (by decide) (by unfold vp_in; decide) hK0 hw hl (Nat.le_of_ble_eq_true rfl) (Nat.le_of_ble_eq_true rfl) dX13_names1_450 (fun H locs hw => ?_)
  refine lv_aload_n hx hb dX13_names1_453 rfl (lv_at hl 0 rfl) ?_
  refine lv_ldc2 (v := 1380994896) hx hb hown (hkw _ m_296) dX13_names1_454 ?_
  refine lv_lconst (v := 0) hx hb dX13_names1_457 (by decide) ?_
  refine lv_iconst (v := 1) hx hb dX13_names1_458 (by decide) ?_
  refine lv_iconst (v := 2) hx hb dX13_names1_459 (by decide) ?_
  refine lv_iconst (v := 0) hx hb dX13_names1_460 (by decide) ?_
  refine n1_step (dv := 41) (dv' := 42) hx hb hml hown hkw hfx hA (by decide) (by unfold vp_in; decide) hK0 hw hl (Nat.le_of_ble_eq_true rfl) (Nat.le_of_ble_eq_true rfl) dX13_names1_461 (fun H locs hw => ?_)
  refine lv_aload_n hx hb dX13_names1_464 rfl (lv_at hl 0 rfl) ?_
  refine lv_ldc2 (v := 1280066894) hx hb hown (hkw _ m_297) dX13_names1_465 ?_
  refine lv_lconst (v := 0) hx hb dX13_names1_468 (by decide) ?_
  refine lv_iconst (v := 1) hx hb dX13_names1_469 (by decide) ?_
  refine lv_iconst (v := 1) hx hb dX13_names1_470 (by decide) ?_
  refine lv_iconst (v := 0) hx hb dX13_names1_471 (by decide) ?_
  refine n1_step (dv := 42) (dv' := 43) hx hb hml hown hkw hfx hA (by decide) (by unfold vp_in; decide) hK0 hw hl (Nat.le_of_ble_eq_true rfl) (Nat.le_of_ble_eq_true rfl) dX13_names1_472 (fun H locs hw => ?_)
  refine lv_aload_n hx hb dX13_names1_475 rfl (lv_at hl 0 rfl) ?_
  refine lv_ldc2 (v := 83916166678341) hx hb hown (hkw _ m_298) dX13_names1_476 ?_
  refine lv_lconst (v := 0) hx hb dX13_names1_479 (by decide) ?_
  refine lv_iconst (v := 3) hx hb dX13_names1_480 (by decide) ?_
  refine lv_iconst (v := 3) hx hb dX13_names1_481 (by decide) ?_
  refine lv_iconst (v := 0) hx hb dX13_names1_482 (by decide) ?_
  refine n1_step (dv := 43) (dv' := 44) hx hb hml hown hkw hfx hA (by decide) (by unfold vp_in; decide) hK0 hw hl (Nat.le_of_ble_eq_true rfl) (Nat.le_of_ble_eq_true rfl) dX13_names1_483 (fun H locs hw => ?_)
  refine lv_aload_n hx hb dX13_names1_486 rfl (lv_at hl 0 rfl) ?_
  refine lv_ldc2 (v := 83877729420632) hx hb hown (hkw _ m_299) dX13_names1_487 ?_
  refine lv_lconst (v := 0) hx hb dX13_names1_490 (by decide) ?_
  refine lv_iconst (v := 2) hx hb dX13_names1_491 (by decide) ?_
  refine lv_iconst (v := 2) hx hb dX13_names1_492 (by decide) ?_
  refine lv_iconst (v := 0) hx hb dX13_names1_493 (by decide) ?_
  refine n1_step (dv := 44) (dv' := 45) hx hb hml hown hkw hfx hA (by decide) (by unfold vp_in; decide) hK0 hw hl (Nat.le_of_ble_eq_true rfl) (Nat.le_of_ble_eq_true rfl) dX13_names1_494 (fun H locs hw => ?_)
  refine lv_aload_n hx hb dX13_names1_497 rfl (lv_at hl 0 rfl) ?_
  refine lv_ldc2 (v := 1280525652) hx hb hown (hkw _ m_300) dX13_names1_498 ?_
  refine lv_lconst (v := 0) hx hb dX13_names1_501 (by decide) ?_
  refine lv_iconst (v := 3) hx hb dX13_names1_502 (by decide) ?_
  refine lv_iconst (v := 3) hx hb dX13_names1_503 (by decide) ?_
  refine lv_iconst (v := 1) hx hb dX13_names1_504 (by decide) ?_
  refine n1_step (dv := 45) (dv' := 46) hx hb hml hown hkw hfx hA (by decide) (by unfold vp_in; decide) hK0 hw hl (Nat.le_of_ble_eq_true rfl) (Nat.le_of_ble_eq_true rfl) dX13_names1_505 (fun H locs hw => ?_)
  refine lv_aload_n hx hb dX13_names1_508 rfl (lv_at hl 0 rfl) ?_
  refine lv_ldc2 (v := 21472698983338580) hx hb hown (hkw _ m_301) dX13_names1_509 ?_
  refine lv_lconst (v := 0) hx hb dX13_names1_512 (by decide) ?_
  refine lv_iconst (v := 4) hx hb dX13_names1_513 (by decide) ?_
  refine lv_iconst (v := 4) hx hb dX13_names1_514 (by decide) ?_
  refine lv_iconst (v := 1) hx hb dX13_names1_515 (by decide) ?_
  refine n1_step (dv := 46) (dv' := 47) hx hb hml hown hkw hfx hA (by decide) (by unfold vp_in; decide) hK0 hw hl (Nat.le_of_ble_eq_true rfl) (Nat.le_of_ble_eq_true rfl) dX13_names1_516 (fun H locs hw => ?_)
  refine lv_aload_n hx hb dX13_names1_519 rfl (lv_at hl 0 rfl) ?_
  refine lv_ldc2 (v := 1280460109) hx hb hown (hkw _ m_302) dX13_names1_520 ?_
  refine lv_lconst (v := 0) hx hb dX13_names1_523 (by decide) ?_
  refine lv_iconst (v := 3) hx hb dX13_names1_524 (by decide) ?_
  refine lv_iconst (v := 3) hx hb dX13_names1_525 (by decide) ?_
  refine lv_iconst (v := 0) hx hb dX13_names1_526 (by decide) ?_
  refine n1_step (dv := 47) (dv' := 48) hx hb hml hown hkw hfx hA (by decide) (by unfold vp_in; decide) hK0 hw hl (Nat.le_of_ble_eq_true rfl) (Nat.le_of_ble_eq_true rfl) dX13_names1_527 (fun H locs hw => ?_)
  refine lv_aload_n hx hb dX13_names1_530 rfl (lv_at hl 0 rfl) ?_
  refine lv_ldc2 (v := 327832193357) hx hb hown (hkw _ m_303) dX13_names1_531 ?_
  refine lv_lconst (v := 0) hx hb dX13_names1_534 (by decide) ?_
  refine lv_iconst (v := 3) hx hb dX13_names1_535 (by decide) ?_
  refine lv_iconst (v := 3) hx hb dX13_names1_536 (by decide) ?_
  refine lv_iconst (v := 0) hx hb dX13_names1_537 (by decide) ?_
  refine n1_step (dv := 48) (dv' := 49) hx hb hml hown hkw hfx hA (by decide) (by unfold vp_in; decide) hK0 hw hl (Nat.le_of_ble_eq_true rfl) (Nat.le_of_ble_eq_true rfl) dX13_names1_538 (fun H locs hw => ?_)
  refine lv_aload_n hx hb dX13_names1_541 rfl (lv_at hl 0 rfl) ?_
  refine lv_ldc2 (v := 327714559557) hx hb hown (hkw _ m_304) dX13_names1_542 ?_
  refine lv_lconst (v := 0) hx hb dX13_names1_545 (by decide) ?_
  refine lv_iconst (v := 4) hx hb dX13_names1_546 (by decide) ?_
  refine lv_iconst (v := 4) hx hb dX13_names1_547 (by decide) ?_
  refine lv_iconst (v := 1) hx hb dX13_names1_548 (by decide) ?_
  refine n1_step (dv := 49) (dv' := 50) hx hb hml hown hkw hfx hA (by decide) (by unfold vp_in; decide) hK0 hw hl (Nat.le_of_ble_eq_true rfl) (Nat.le_of_ble_eq_true rfl) dX13_names1_549 (fun H locs hw => ?_)
  refine lv_aload_n hx hb dX13_names1_552 rfl (lv_at hl 0 rfl) ?_
  refine lv_ldc2 (v := 5931327915543254355) hx hb hown (hkw _ m_305) dX13_names1_553 ?_
  refine lv_ldc2 (v := 72) hx hb hown (hkw _ m_306) dX13_names1_556 ?_
  refine lv_iconst (v := 2) hx hb dX13_names1_559 (by decide) ?_
  refine lv_iconst (v := 2) hx hb dX13_names1_560 (by decide) ?_
  refine lv_iconst (v := 1) hx hb dX13_names1_561 (by decide) ?_
  refine n1_step (dv := 50) (dv' := 51) hx hb hml hown hkw hfx hA (by decide) (by unfold vp_in; decide) hK0 hw hl (Nat.le_of_ble_eq_true rfl) (Nat.le_of_ble_eq_true rfl) dX13_names1_562 (fun H locs hw => ?_)
  refine lv_aload_n hx hb dX13_names1_565 rfl (lv_at hl 0 rfl) ?_
  refine lv_ldc2 (v := 1213416788) hx hb hown (hkw _ m_307) dX13_names1_566 ?_
  refine lv_lconst (v := 0) hx hb dX13_names1_569 (by decide) ?_
  refine lv_iconst (v := 3) hx hb dX13_names1_570 (by decide) ?_
  refine lv_iconst (v := (-1)) hx hb dX13_names1_571 (by decide) ?_
  refine lv_iconst (v := 1) hx hb dX13_names1_572 (by decide) ?_
  refine n1_step (dv := 51) (dv' := 52) hx hb hml hown hkw hfx hA (by decide) (by unfold vp_in; decide) hK0 hw hl (Nat.le_of_ble_eq_true rfl) (Nat.le_of_ble_eq_true rfl) dX13_names1_573 (fun H locs hw => ?_)
  refine lv_aload_n hx hb dX13_names1_576 rfl (lv_at hl 0 rfl) ?_
  refine lv_ldc2 (v := 79522482638424) hx hb hown (hkw _ m_308) dX13_names1_577 ?_
  refine lv_lconst (v := 0) hx hb dX13_names1_580 (by decide) ?_
  refine lv_iconst (v := 3) hx hb dX13_names1_581 (by decide) ?_
  refine lv_iconst (v := 3) hx hb dX13_names1_582 (by decide) ?_
  refine lv_iconst (v := 1) hx hb dX13_names1_583 (by decide) ?_
  refine n1_step (dv := 52) (dv' := 53) hx hb hml hown hkw hfx hA (by decide) (by unfold vp_in; decide) hK0 hw hl (Nat.le_of_ble_eq_true rfl) (Nat.le_of_ble_eq_true rfl) dX13_names1_584 (fun H locs hw => ?_)
  refine lv_aload_n hx hb dX13_names1_587 rfl (lv_at hl 0 rfl) ?_
  refine lv_ldc2 (v := 1212630356) hx hb hown (hkw _ m_309) dX13_names1_588 ?_
  refine lv_lconst (v := 0) hx hb dX13_names1_591 (by decide) ?_
  refine lv_iconst (v := 2) hx hb dX13_names1_592 (by decide) ?_
  refine lv_iconst (v := 2) hx hb dX13_names1_593 (by decide) ?_
  refine lv_iconst (v := 0) hx hb dX13_names1_594 (by decide) ?_
  refine n1_step (dv := 53) (dv' := 54) hx hb hml hown hkw hfx hA (by decide) (by unfold vp_in; decide) hK0 hw hl (Nat.le_of_ble_eq_true rfl) (Nat.le_of_ble_eq_true rfl) dX13_names1_595 (fun H locs hw => ?_)
  refine lv_aload_n hx hb dX13_names1_598 rfl (lv_at hl 0 rfl) ?_
  refine lv_ldc2 (v := 310534161748) hx hb hown (hkw _ m_310) dX13_names1_599 ?_
  refine lv_lconst (v := 0) hx hb dX13_names1_602 (by decide) ?_
  refine lv_iconst (v := 2) hx hb dX13_names1_603 (by decide) ?_
  refine lv_iconst (v := (-1)) hx hb dX13_names1_604 (by decide) ?_
  refine lv_iconst (v := 0) hx hb dX13_names1_605 (by decide) ?_
  refine n1_step (dv := 54) (dv' := 55) hx hb hml hown hkw hfx hA (by decide) (by unfold vp_in; decide) hK0 hw hl (Nat.le_of_ble_eq_true rfl) (Nat.le_of_ble_eq_true rfl) dX13_names1_606 (fun H locs hw => ?_)
  refine lv_aload_n hx hb dX13_names1_609 rfl (lv_at hl 0 rfl) ?_
  refine lv_ldc2 (v := 1212433740) hx hb hown (hkw _ m_311) dX13_names1_610 ?_
  refine lv_lconst (v := 0) hx hb dX13_names1_613 (by decide) ?_
  refine lv_iconst (v := 2) hx hb dX13_names1_614 (by decide) ?_
  refine lv_iconst (v := (-1)) hx hb dX13_names1_615 (by decide) ?_
  refine lv_iconst (v := 0) hx hb dX13_names1_616 (by decide) ?_
  refine n1_step (dv := 55) (dv' := 56) hx hb hml hown hkw hfx hA (by decide) (by unfold vp_in; decide) hK0 hw hl (Nat.le_of_ble_eq_true rfl) (Nat.le_of_ble_eq_true rfl) dX13_names1_617 (fun H locs hw => ?_)
  refine lv_aload_n hx hb dX13_names1_620 rfl (lv_at hl 0 rfl) ?_
  refine lv_ldc2 (v := 20342443812803667) hx hb hown (hkw _ m_312) dX13_names1_621 ?_
  refine lv_lconst (v := 0) hx hb dX13_names1_624 (by decide) ?_
  refine lv_iconst (v := 2) hx hb dX13_names1_625 (by decide) ?_
  refine lv_iconst (v := 2) hx hb dX13_names1_626 (by decide) ?_
  refine lv_iconst (v := 0) hx hb dX13_names1_627 (by decide) ?_
  refine n1_step (dv := 56) (dv' := 57) hx hb hml hown hkw hfx hA (by decide) (by unfold vp_in; decide) hK0 hw hl (Nat.le_of_ble_eq_true rfl) (Nat.le_of_ble_eq_true rfl) dX13_names1_628 (fun H locs hw => ?_)
  refine lv_aload_n hx hb dX13_names1_631 rfl (lv_at hl 0 rfl) ?_
  refine lv_ldc2 (v := 1212958030) hx hb hown (hkw _ m_313) dX13_names1_632 ?_
  refine lv_lconst (v := 0) hx hb dX13_names1_635 (by decide) ?_
  refine lv_iconst (v := 1) hx hb dX13_names1_636 (by decide) ?_
  refine lv_iconst (v := 1) hx hb dX13_names1_637 (by decide) ?_
  refine lv_iconst (v := 0) hx hb dX13_names1_638 (by decide) ?_
  refine n1_step (dv := 57) (dv' := 58) hx hb hml hown hkw hfx hA (by decide) (by unfold vp_in; decide) hK0 hw hl (Nat.le_of_ble_eq_true rfl) (Nat.le_of_ble_eq_true rfl) dX13_names1_639 (fun H locs hw => ?_)
  refine lv_aload_n hx hb dX13_names1_642 rfl (lv_at hl 0 rfl) ?_
  refine lv_ldc2 (v := 20357819946255694) hx hb hown (hkw _ m_314) dX13_names1_643 ?_
  refine lv_lconst (v := 0) hx hb dX13_names1_646 (by decide) ?_
  refine lv_iconst (v := 2) hx hb dX13_names1_647 (by decide) ?_
  refine lv_iconst (v := 2) hx hb dX13_names1_648 (by decide) ?_
  refine lv_iconst (v := 0) hx hb dX13_names1_649 (by decide) ?_
  refine n1_step (dv := 58) (dv' := 59) hx hb hml hown hkw hfx hA (by decide) (by unfold vp_in; decide) hK0 hw hl (Nat.le_of_ble_eq_true rfl) (Nat.le_of_ble_eq_true rfl) dX13_names1_650 (fun H locs hw => ?_)
  refine lv_aload_n hx hb dX13_names1_653 rfl (lv_at hl 0 rfl) ?_
  refine lv_ldc2 (v := 310500481363) hx hb hown (hkw _ m_315) dX13_names1_654 ?_
  refine lv_lconst (v := 0) hx hb dX13_names1_657 (by decide) ?_
  refine lv_iconst (v := 1) hx hb dX13_names1_658 (by decide) ?_
  refine lv_iconst (v := 1) hx hb dX13_names1_659 (by decide) ?_
  refine lv_iconst (v := 0) hx hb dX13_names1_660 (by decide) ?_
  refine n1_step (dv := 59) (dv' := 60) hx hb hml hown hkw hfx hA (by decide) (by unfold vp_in; decide) hK0 hw hl (Nat.le_of_ble_eq_true rfl) (Nat.le_of_ble_eq_true rfl) dX13_names1_661 (fun H locs hw => ?_)
  refine lv_aload_n hx hb dX13_names1_664 rfl (lv_at hl 0 rfl) ?_
  refine lv_ldc2 (v := 310684765267) hx hb hown (hkw _ m_316) dX13_names1_665 ?_
  refine lv_lconst (v := 0) hx hb dX13_names1_668 (by decide) ?_
  refine lv_iconst (v := 1) hx hb dX13_names1_669 (by decide) ?_
  refine lv_iconst (v := 1) hx hb dX13_names1_670 (by decide) ?_
  refine lv_iconst (v := 0) hx hb dX13_names1_671 (by decide) ?_
  refine n1_step (dv := 60) (dv' := 61) hx hb hml hown hkw hfx hA (by decide) (by unfold vp_in; decide) hK0 hw hl (Nat.le_of_ble_eq_true rfl) (Nat.le_of_ble_eq_true rfl) dX13_names1_672 (fun H locs hw => ?_)
  refine lv_aload_n hx hb dX13_names1_675 rfl (lv_at hl 0 rfl) ?_
  refine lv_ldc2 (v := 20344561415048268) hx hb hown (hkw _ m_317) dX13_names1_676 ?_
  refine lv_lconst (v := 0) hx hb dX13_names1_679 (by decide) ?_
  refine lv_iconst (v := 1) hx hb dX13_names1_680 (by decide) ?_
  refine lv_iconst (v := 1) hx hb dX13_names1_681 (by decide) ?_
  refine lv_iconst (v := 0) hx hb dX13_names1_682 (by decide) ?_
  refine n1_step (dv := 61) (dv' := 62) hx hb hml hown hkw hfx hA (by decide) (by unfold vp_in; decide) hK0 hw hl (Nat.le_of_ble_eq_true rfl) (Nat.le_of_ble_eq_true rfl) dX13_names1_683 (fun H locs hw => ?_)
  refine lv_aload_n hx hb dX13_names1_686 rfl (lv_at hl 0 rfl) ?_
  refine lv_ldc2 (v := 20346798808908377) hx hb hown (hkw _ m_318) dX13_names1_687 ?_
  refine lv_lconst (v := 0) hx hb dX13_names1_690 (by decide) ?_
  refine lv_iconst (v := 3) hx hb dX13_names1_691 (by decide) ?_
  refine lv_iconst (v := 3) hx hb dX13_names1_692 (by decide) ?_
  refine lv_iconst (v := 1) hx hb dX13_names1_693 (by decide) ?_
  refine n1_step (dv := 62) (dv' := 63) hx hb hml hown hkw hfx hA (by decide) (by unfold vp_in; decide) hK0 hw hl (Nat.le_of_ble_eq_true rfl) (Nat.le_of_ble_eq_true rfl) dX13_names1_694 (fun H locs hw => ?_)
  refine lv_aload_n hx hb dX13_names1_697 rfl (lv_at hl 0 rfl) ?_
  refine lv_ldc2 (v := 1396786244) hx hb hown (hkw _ m_319) dX13_names1_698 ?_
  refine lv_lconst (v := 0) hx hb dX13_names1_701 (by decide) ?_
  refine lv_iconst (v := 2) hx hb dX13_names1_702 (by decide) ?_
  refine lv_iconst (v := (-1)) hx hb dX13_names1_703 (by decide) ?_
  refine lv_iconst (v := 1) hx hb dX13_names1_704 (by decide) ?_
  refine n1_step (dv := 63) (dv' := 64) hx hb hml hown hkw hfx hA (by decide) (by unfold vp_in; decide) hK0 hw hl (Nat.le_of_ble_eq_true rfl) (Nat.le_of_ble_eq_true rfl) dX13_names1_705 (fun H locs hw => ?_)
  refine lv_aload_n hx hb dX13_names1_708 rfl (lv_at hl 0 rfl) ?_
  refine lv_ldc2 (v := 1397900621) hx hb hown (hkw _ m_320) dX13_names1_709 ?_
  refine lv_lconst (v := 0) hx hb dX13_names1_712 (by decide) ?_
  refine lv_iconst (v := 2) hx hb dX13_names1_713 (by decide) ?_
  refine lv_iconst (v := (-1)) hx hb dX13_names1_714 (by decide) ?_
  refine lv_iconst (v := 0) hx hb dX13_names1_715 (by decide) ?_
  refine n1_step (dv := 64) (dv' := 65) hx hb hml hown hkw hfx hA (by decide) (by unfold vp_in; decide) hK0 hw hl (Nat.le_of_ble_eq_true rfl) (Nat.le_of_ble_eq_true rfl) dX13_names1_716 (fun H locs hw => ?_)
  refine lv_aload_n hx hb dX13_names1_719 rfl (lv_at hl 0 rfl) ?_
  refine lv_ldc2 (v := 6001419569788174917) hx hb hown (hkw _ m_321) dX13_names1_720 ?_
  refine lv_ldc2 (v := 82) hx hb hown (hkw _ m_322) dX13_names1_723 ?_
  refine lv_iconst (v := 2) hx hb dX13_names1_726 (by decide) ?_
  refine lv_iconst (v := 2) hx hb dX13_names1_727 (by decide) ?_
  refine lv_iconst (v := 0) hx hb dX13_names1_728 (by decide) ?_
  refine n1_step (dv := 65) (dv' := 66) hx hb hml hown hkw hfx hA (by decide) (by unfold vp_in; decide) hK0 hw hl (Nat.le_of_ble_eq_true rfl) (Nat.le_of_ble_eq_true rfl) dX13_names1_729 (fun H locs hw => ?_)
  refine lv_aload_n hx hb dX13_names1_732 rfl (lv_at hl 0 rfl) ?_
  refine lv_ldc2 (v := 6002534500482239810) hx hb hown (hkw _ m_323) dX13_names1_733 ?_
  refine lv_ldc2 (v := 17746) hx hb hown (hkw _ m_324) dX13_names1_736 ?_
  refine lv_iconst (v := 2) hx hb dX13_names1_739 (by decide) ?_
  refine lv_iconst (v := (-1)) hx hb dX13_names1_740 (by decide) ?_
  refine lv_iconst (v := 0) hx hb dX13_names1_741 (by decide) ?_
  refine n1_step (dv := 66) (dv' := 67) hx hb hml hown hkw hfx hA (by decide) (by unfold vp_in; decide) hK0 hw hl (Nat.le_of_ble_eq_true rfl) (Nat.le_of_ble_eq_true rfl) dX13_names1_742 (fun H locs hw => ?_)
  refine lv_aload_n hx hb dX13_names1_745 rfl (lv_at hl 0 rfl) ?_
  refine lv_ldc2 (v := 357610639940) hx hb hown (hkw _ m_325) dX13_names1_746 ?_
  refine lv_lconst (v := 0) hx hb dX13_names1_749 (by decide) ?_
  refine lv_iconst (v := 1) hx hb dX13_names1_750 (by decide) ?_
  refine lv_iconst (v := 1) hx hb dX13_names1_751 (by decide) ?_
  refine lv_iconst (v := 0) hx hb dX13_names1_752 (by decide) ?_
  refine n1_step (dv := 67) (dv' := 68) hx hb hml hown hkw hfx hA (by decide) (by unfold vp_in; decide) hK0 hw hl (Nat.le_of_ble_eq_true rfl) (Nat.le_of_ble_eq_true rfl) dX13_names1_753 (fun H locs hw => ?_)
  refine lv_aload_n hx hb dX13_names1_756 rfl (lv_at hl 0 rfl) ?_
  refine lv_ldc2 (v := 6002530076481376851) hx hb hown (hkw _ m_326) dX13_names1_757 ?_
  refine lv_lconst (v := 0) hx hb dX13_names1_760 (by decide) ?_
  refine lv_iconst (v := 1) hx hb dX13_names1_761 (by decide) ?_
  refine lv_iconst (v := 1) hx hb dX13_names1_762 (by decide) ?_
  refine lv_iconst (v := 0) hx hb dX13_names1_763 (by decide) ?_
  refine n1_step (dv := 68) (dv' := 69) hx hb hml hown hkw hfx hA (by decide) (by unfold vp_in; decide) hK0 hw hl (Nat.le_of_ble_eq_true rfl) (Nat.le_of_ble_eq_true rfl) dX13_names1_764 (fun H locs hw => ?_)
  refine lv_aload_n hx hb dX13_names1_767 rfl (lv_at hl 0 rfl) ?_
  refine lv_ldc2 (v := 357779330629) hx hb hown (hkw _ m_327) dX13_names1_768 ?_
  refine lv_lconst (v := 0) hx hb dX13_names1_771 (by decide) ?_
  refine lv_iconst (v := 3) hx hb dX13_names1_772 (by decide) ?_
  refine lv_iconst (v := 3) hx hb dX13_names1_773 (by decide) ?_
  refine lv_iconst (v := 0) hx hb dX13_names1_774 (by decide) ?_
  refine n1_step (dv := 69) (dv' := 70) hx hb hml hown hkw hfx hA (by decide) (by unfold vp_in; decide) hK0 hw hl (Nat.le_of_ble_eq_true rfl) (Nat.le_of_ble_eq_true rfl) dX13_names1_775 (fun H locs hw => ?_)
  refine lv_aload_n hx hb dX13_names1_778 rfl (lv_at hl 0 rfl) ?_
  refine lv_ldc2 (v := 91574311863634) hx hb hown (hkw _ m_328) dX13_names1_779 ?_
  refine lv_lconst (v := 0) hx hb dX13_names1_782 (by decide) ?_
  refine lv_iconst (v := 1) hx hb dX13_names1_783 (by decide) ?_
  refine lv_iconst (v := (-1)) hx hb dX13_names1_784 (by decide) ?_
  refine lv_iconst (v := 0) hx hb dX13_names1_785 (by decide) ?_
  refine n1_step (dv := 70) (dv' := 71) hx hb hml hown hkw hfx hA (by decide) (by unfold vp_in; decide) hK0 hw hl (Nat.le_of_ble_eq_true rfl) (Nat.le_of_ble_eq_true rfl) dX13_names1_786 (fun H locs hw => ?_)
  refine lv_aload_n hx hb dX13_names1_789 rfl (lv_at hl 0 rfl) ?_
  refine lv_ldc2 (v := 91625850752846) hx hb hown (hkw _ m_329) dX13_names1_790 ?_
  refine lv_lconst (v := 0) hx hb dX13_names1_793 (by decide) ?_
  refine lv_iconst (v := 1) hx hb dX13_names1_794 (by decide) ?_
  refine lv_iconst (v := (-1)) hx hb dX13_names1_795 (by decide) ?_
  refine lv_iconst (v := 0) hx hb dX13_names1_796 (by decide) ?_
  refine n1_step (dv := 71) (dv' := 72) hx hb hml hown hkw hfx hA (by decide) (by unfold vp_in; decide) hK0 hw hl (Nat.le_of_ble_eq_true rfl) (Nat.le_of_ble_eq_true rfl) dX13_names1_797 (fun H locs hw => ?_)
  refine lv_aload_n hx hb dX13_names1_800 rfl (lv_at hl 0 rfl) ?_
  refine lv_ldc2 (v := 357627938374) hx hb hown (hkw _ m_330) dX13_names1_801 ?_
  refine lv_lconst (v := 0) hx hb dX13_names1_804 (by decide) ?_
  refine lv_iconst (v := 1) hx hb dX13_names1_805 (by decide) ?_
  refine lv_iconst (v := (-1)) hx hb dX13_names1_806 (by decide) ?_
  refine lv_iconst (v := 0) hx hb dX13_names1_807 (by decide) ?_
  refine n1_step (dv := 72) (dv' := 73) hx hb hml hown hkw hfx hA (by decide) (by unfold vp_in; decide) hK0 hw hl (Nat.le_of_ble_eq_true rfl) (Nat.le_of_ble_eq_true rfl) dX13_names1_808 (fun H locs hw => ?_)
  refine lv_aload_n hx hb dX13_names1_811 rfl (lv_at hl 0 rfl) ?_
  refine lv_ldc2 (v := 6001414102295139156) hx hb hown (hkw _ m_331) dX13_names1_812 ?_
  refine lv_ldc2 (v := 5198405) hx hb hown (hkw _ m_332) dX13_names1_815 ?_
  refine lv_iconst (v := 2) hx hb dX13_names1_818 (by decide) ?_
  refine lv_iconst (v := (-1)) hx hb dX13_names1_819 (by decide) ?_
  refine lv_iconst (v := 1) hx hb dX13_names1_820 (by decide) ?_
  refine n1_step (dv := 73) (dv' := 74) hx hb hml hown hkw hfx hA (by decide) (by unfold vp_in; decide) hK0 hw hl (Nat.le_of_ble_eq_true rfl) (Nat.le_of_ble_eq_true rfl) dX13_names1_821 (fun H locs hw => ?_)
  refine lv_aload_n hx hb dX13_names1_824 rfl (lv_at hl 0 rfl) ?_
  refine lv_ldc2 (v := 6004791754938536788) hx hb hown (hkw _ m_333) dX13_names1_825 ?_
  refine lv_ldc2 (v := 5198405) hx hb hown (hkw _ m_332) dX13_names1_828 ?_
  refine lv_iconst (v := 2) hx hb dX13_names1_831 (by decide) ?_
  refine lv_iconst (v := (-1)) hx hb dX13_names1_832 (by decide) ?_
  refine lv_iconst (v := 1) hx hb dX13_names1_833 (by decide) ?_
  refine n1_step (dv := 74) (dv' := 75) hx hb hml hown hkw hfx hA (by decide) (by unfold vp_in; decide) hK0 hw hl (Nat.le_of_ble_eq_true rfl) (Nat.le_of_ble_eq_true rfl) dX13_names1_834 (fun H locs hw => ?_)
  refine lv_aload_n hx hb dX13_names1_837 rfl (lv_at hl 0 rfl) ?_
  refine lv_ldc2 (v := 6000001169740747855) hx hb hown (hkw _ m_334) dX13_names1_838 ?_
  refine lv_ldc2 (v := 21061) hx hb hown (hkw _ m_335) dX13_names1_841 ?_
  refine lv_iconst (v := 2) hx hb dX13_names1_844 (by decide) ?_
  refine lv_iconst (v := (-1)) hx hb dX13_names1_845 (by decide) ?_
  refine lv_iconst (v := 1) hx hb dX13_names1_846 (by decide) ?_
  refine n1_step (dv := 75) (dv' := 76) hx hb hml hown hkw hfx hA (by decide) (by unfold vp_in; decide) hK0 hw hl (Nat.le_of_ble_eq_true rfl) (Nat.le_of_ble_eq_true rfl) dX13_names1_847 (fun H locs hw => ?_)
  refine lv_aload_n hx hb dX13_names1_850 rfl (lv_at hl 0 rfl) ?_
  refine lv_ldc2 (v := 1397772112) hx hb hown (hkw _ m_336) dX13_names1_851 ?_
  refine lv_lconst (v := 0) hx hb dX13_names1_854 (by decide) ?_
  refine lv_iconst (v := 1) hx hb dX13_names1_855 (by decide) ?_
  refine lv_iconst (v := 1) hx hb dX13_names1_856 (by decide) ?_
  refine lv_iconst (v := 0) hx hb dX13_names1_857 (by decide) ?_
  refine n1_step (dv := 76) (dv' := 77) hx hb hml hown hkw hfx hA (by decide) (by unfold vp_in; decide) hK0 hw hl (Nat.le_of_ble_eq_true rfl) (Nat.le_of_ble_eq_true rfl) dX13_names1_858 (fun H locs hw => ?_)
  refine lv_aload_n hx hb dX13_names1_861 rfl (lv_at hl 0 rfl) ?_
  refine lv_ldc2 (v := 1514226756) hx hb hown (hkw _ m_337) dX13_names1_862 ?_
  refine lv_lconst (v := 0) hx hb dX13_names1_865 (by decide) ?_
  refine lv_iconst (v := 3) hx hb dX13_names1_866 (by decide) ?_
  refine lv_iconst (v := (-1)) hx hb dX13_names1_867 (by decide) ?_
  refine lv_iconst (v := 1) hx hb dX13_names1_868 (by decide) ?_
  refine n1_step (dv := 77) (dv' := 78) hx hb hml hown hkw hfx hA (by decide) (by unfold vp_in; decide) hK0 hw hl (Nat.le_of_ble_eq_true rfl) (Nat.le_of_ble_eq_true rfl) dX13_names1_869 (fun H locs hw => ?_)
  refine lv_aload_n hx hb dX13_names1_872 rfl (lv_at hl 0 rfl) ?_
  refine lv_ldc2 (v := 1515341133) hx hb hown (hkw _ m_338) dX13_names1_873 ?_
  refine lv_lconst (v := 0) hx hb dX13_names1_876 (by decide) ?_
  refine lv_iconst (v := 2) hx hb dX13_names1_877 (by decide) ?_
  refine lv_iconst (v := (-1)) hx hb dX13_names1_878 (by decide) ?_
  refine lv_iconst (v := 0) hx hb dX13_names1_879 (by decide) ?_
  refine n1_step (dv := 78) (dv' := 79) hx hb hml hown hkw hfx hA (by decide) (by unfold vp_in; decide) hK0 hw hl (Nat.le_of_ble_eq_true rfl) (Nat.le_of_ble_eq_true rfl) dX13_names1_880 (fun H locs hw => ?_)
  refine lv_aload_n hx hb dX13_names1_883 rfl (lv_at hl 0 rfl) ?_
  refine lv_ldc2 (v := 99313658057285) hx hb hown (hkw _ m_339) dX13_names1_884 ?_
  refine lv_lconst (v := 0) hx hb dX13_names1_887 (by decide) ?_
  refine lv_iconst (v := 2) hx hb dX13_names1_888 (by decide) ?_
  refine lv_iconst (v := 2) hx hb dX13_names1_889 (by decide) ?_
  refine lv_iconst (v := 0) hx hb dX13_names1_890 (by decide) ?_
  refine n1_step (dv := 79) (dv' := 80) hx hb hml hown hkw hfx hA (by decide) (by unfold vp_in; decide) hK0 hw hl (Nat.le_of_ble_eq_true rfl) (Nat.le_of_ble_eq_true rfl) dX13_names1_891 (fun H locs hw => ?_)
  refine lv_aload_n hx hb dX13_names1_894 rfl (lv_at hl 0 rfl) ?_
  refine lv_ldc2 (v := 25413348389700185) hx hb hown (hkw _ m_340) dX13_names1_895 ?_
  refine lv_lconst (v := 0) hx hb dX13_names1_898 (by decide) ?_
  refine lv_iconst (v := 3) hx hb dX13_names1_899 (by decide) ?_
  refine lv_iconst (v := 3) hx hb dX13_names1_900 (by decide) ?_
  refine lv_iconst (v := 1) hx hb dX13_names1_901 (by decide) ?_
  refine n1_step (dv := 80) (dv' := 81) hx hb hml hown hkw hfx hA (by decide) (by unfold vp_in; decide) hK0 hw hl (Nat.le_of_ble_eq_true rfl) (Nat.le_of_ble_eq_true rfl) dX13_names1_902 (fun H locs hw => ?_)
  refine lv_aload_n hx hb dX13_names1_905 rfl (lv_at hl 0 rfl) ?_
  refine lv_ldc2 (v := 387675411012) hx hb hown (hkw _ m_341) dX13_names1_906 ?_
  refine lv_lconst (v := 0) hx hb dX13_names1_909 (by decide) ?_
  refine lv_iconst (v := 1) hx hb dX13_names1_910 (by decide) ?_
  refine lv_iconst (v := 1) hx hb dX13_names1_911 (by decide) ?_
  refine lv_iconst (v := 0) hx hb dX13_names1_912 (by decide) ?_
  refine n1_step (dv := 81) (dv' := 82) hx hb hml hown hkw hfx hA (by decide) (by unfold vp_in; decide) hK0 hw hl (Nat.le_of_ble_eq_true rfl) (Nat.le_of_ble_eq_true rfl) dX13_names1_913 (fun H locs hw => ?_)
  refine lv_aload_n hx hb dX13_names1_916 rfl (lv_at hl 0 rfl) ?_
  refine lv_ldc2 (v := 387927068235) hx hb hown (hkw _ m_342) dX13_names1_917 ?_
  refine lv_lconst (v := 0) hx hb dX13_names1_920 (by decide) ?_
  refine lv_iconst (v := 2) hx hb dX13_names1_921 (by decide) ?_
  refine lv_iconst (v := 2) hx hb dX13_names1_922 (by decide) ?_
  refine lv_iconst (v := 0) hx hb dX13_names1_923 (by decide) ?_
  refine n1_step (dv := 82) (dv' := 83) hx hb hml hown hkw hfx hA (by decide) (by unfold vp_in; decide) hK0 hw hl (Nat.le_of_ble_eq_true rfl) (Nat.le_of_ble_eq_true rfl) dX13_names1_924 (fun H locs hw => ?_)
  refine lv_aload_n hx hb dX13_names1_927 rfl (lv_at hl 0 rfl) ?_
  refine lv_ldc2 (v := 6508340648553303627) hx hb hown (hkw _ m_343) dX13_names1_928 ?_
  refine lv_lconst (v := 0) hx hb dX13_names1_931 (by decide) ?_
  refine lv_iconst (v := 2) hx hb dX13_names1_932 (by decide) ?_
  refine lv_iconst (v := 2) hx hb dX13_names1_933 (by decide) ?_
  refine lv_iconst (v := 0) hx hb dX13_names1_934 (by decide) ?_
  refine n1_step (dv := 83) (dv' := 84) hx hb hml hown hkw hfx hA (by decide) (by unfold vp_in; decide) hK0 hw hl (Nat.le_of_ble_eq_true rfl) (Nat.le_of_ble_eq_true rfl) dX13_names1_935 (fun H locs hw => ?_)
  refine lv_aload_n hx hb dX13_names1_938 rfl (lv_at hl 0 rfl) ?_
  refine lv_ldc2 (v := 99309329467205) hx hb hown (hkw _ m_344) dX13_names1_939 ?_
  refine lv_lconst (v := 0) hx hb dX13_names1_942 (by decide) ?_
  refine lv_iconst (v := 3) hx hb dX13_names1_943 (by decide) ?_
  refine lv_iconst (v := (-1)) hx hb dX13_names1_944 (by decide) ?_
  refine lv_iconst (v := 0) hx hb dX13_names1_945 (by decide) ?_
  refine n1_step (dv := 84) (dv' := 85) hx hb hml hown hkw hfx hA (by decide) (by unfold vp_in; decide) hK0 hw hl (Nat.le_of_ble_eq_true rfl) (Nat.le_of_ble_eq_true rfl) dX13_names1_946 (fun H locs hw => ?_)
  refine lv_aload_n hx hb dX13_names1_949 rfl (lv_at hl 0 rfl) ?_
  refine lv_ldc2 (v := 6508340648553303623) hx hb hown (hkw _ m_345) dX13_names1_950 ?_
  refine lv_ldc2 (v := 69) hx hb hown (hkw _ m_346) dX13_names1_953 ?_
  refine lv_iconst (v := 3) hx hb dX13_names1_956 (by decide) ?_
  refine lv_iconst (v := (-1)) hx hb dX13_names1_957 (by decide) ?_
  refine lv_iconst (v := 0) hx hb dX13_names1_958 (by decide) ?_
  refine n1_step (dv := 85) (dv' := 86) hx hb hml hown hkw hfx hA (by decide) (by unfold vp_in; decide) hK0 hw hl (Nat.le_of_ble_eq_true rfl) (Nat.le_of_ble_eq_true rfl) dX13_names1_959 (fun H locs hw => ?_)
  refine lv_aload_n hx hb dX13_names1_962 rfl (lv_at hl 0 rfl) ?_
  refine lv_ldc2 (v := 6508336215962763865) hx hb hown (hkw _ m_347) dX13_names1_963 ?_
  refine lv_ldc2 (v := 357611557445) hx hb hown (hkw _ m_348) dX13_names1_966 ?_
  refine lv_iconst (v := 3) hx hb dX13_names1_969 (by decide) ?_
  refine lv_iconst (v := (-1)) hx hb dX13_names1_970 (by decide) ?_
  refine lv_iconst (v := 0) hx hb dX13_names1_971 (by decide) ?_
  refine n1_step (dv := 86) (dv' := 87) hx hb hml hown hkw hfx hA (by decide) (by unfold vp_in; decide) hK0 hw hl (Nat.le_of_ble_eq_true rfl) (Nat.le_of_ble_eq_true rfl) dX13_names1_972 (fun H locs hw => ?_)
  refine lv_aload_n hx hb dX13_names1_975 rfl (lv_at hl 0 rfl) ?_
  refine lv_ldc2 (v := 6508340648553303623) hx hb hown (hkw _ m_345) dX13_names1_976 ?_
  refine lv_ldc2 (v := 4990649551226360389) hx hb hown (hkw _ m_349) dX13_names1_979 ?_
  refine lv_iconst (v := 3) hx hb dX13_names1_982 (by decide) ?_
  refine lv_iconst (v := (-1)) hx hb dX13_names1_983 (by decide) ?_
  refine lv_iconst (v := 0) hx hb dX13_names1_984 (by decide) ?_
  refine n1_step (dv := 87) (dv' := 88) hx hb hml hown hkw hfx hA (by decide) (by unfold vp_in; decide) hK0 hw hl (Nat.le_of_ble_eq_true rfl) (Nat.le_of_ble_eq_true rfl) dX13_names1_985 (fun H locs hw => ?_)
  refine lv_aload_n hx hb dX13_names1_988 rfl (lv_at hl 0 rfl) ?_
  refine lv_ldc2 (v := 99245140299348) hx hb hown (hkw _ m_350) dX13_names1_989 ?_
  refine lv_lconst (v := 0) hx hb dX13_names1_992 (by decide) ?_
  refine lv_iconst (v := 3) hx hb dX13_names1_993 (by decide) ?_
  refine lv_iconst (v := 3) hx hb dX13_names1_994 (by decide) ?_
  refine lv_iconst (v := 0) hx hb dX13_names1_995 (by decide) ?_
  refine n1_step (dv := 88) (dv' := 89) hx hb hml hown hkw hfx hA (by decide) (by unfold vp_in; decide) hK0 hw hl (Nat.le_of_ble_eq_true rfl) (Nat.le_of_ble_eq_true rfl) dX13_names1_996 (fun H locs hw => ?_)
  refine lv_aload_n hx hb dX13_names1_999 rfl (lv_at hl 0 rfl) ?_
  refine lv_ldc2 (v := 6508340609898597959) hx hb hown (hkw _ m_351) dX13_names1_1000 ?_
  refine lv_ldc2 (v := 19494724792569419) hx hb hown (hkw _ m_352) dX13_names1_1003 ?_
  refine lv_iconst (v := 3) hx hb dX13_names1_1006 (by decide) ?_
  refine lv_iconst (v := 3) hx hb dX13_names1_1007 (by decide) ?_
  refine lv_iconst (v := 0) hx hb dX13_names1_1008 (by decide) ?_
  refine n1_step (dv := 89) (dv' := 90) hx hb hml hown hkw hfx hA (by decide) (by unfold vp_in; decide) hK0 hw hl (Nat.le_of_ble_eq_true rfl) (Nat.le_of_ble_eq_true rfl) dX13_names1_1009 (fun H locs hw => ?_)
  refine lv_aload_n hx hb dX13_names1_1012 rfl (lv_at hl 0 rfl) ?_
  refine lv_ldc2 (v := 6508340609898597959) hx hb hown (hkw _ m_351) dX13_names1_1013 ?_
  refine lv_ldc2 (v := 4990649551226360389) hx hb hown (hkw _ m_349) dX13_names1_1016 ?_
  refine lv_iconst (v := 3) hx hb dX13_names1_1019 (by decide) ?_
  refine lv_iconst (v := 3) hx hb dX13_names1_1020 (by decide) ?_
  refine lv_iconst (v := 0) hx hb dX13_names1_1021 (by decide) ?_
  refine n1_step (dv := 90) (dv' := 91) hx hb hml hown hkw hfx hA (by decide) (by unfold vp_in; decide) hK0 hw hl (Nat.le_of_ble_eq_true rfl) (Nat.le_of_ble_eq_true rfl) dX13_names1_1022 (fun H locs hw => ?_)
  refine lv_aload_n hx hb dX13_names1_1025 rfl (lv_at hl 0 rfl) ?_
  refine lv_ldc2 (v := 25421049483839822) hx hb hown (hkw _ m_353) dX13_names1_1026 ?_
  refine lv_lconst (v := 0) hx hb dX13_names1_1029 (by decide) ?_
  refine lv_iconst (v := 1) hx hb dX13_names1_1030 (by decide) ?_
  refine lv_iconst (v := 2) hx hb dX13_names1_1031 (by decide) ?_
  refine lv_iconst (v := 0) hx hb dX13_names1_1032 (by decide) ?_
  refine n1_step (dv := 91) (dv' := 92) hx hb hml hown hkw hfx hA (by decide) (by unfold vp_in; decide) hK0 hw hl (Nat.le_of_ble_eq_true rfl) (Nat.le_of_ble_eq_true rfl) dX13_names1_1033 (fun H locs hw => ?_)
  refine lv_aload_n hx hb dX13_names1_1036 rfl (lv_at hl 0 rfl) ?_
  refine lv_ldc2 (v := 25421049483837784) hx hb hown (hkw _ m_354) dX13_names1_1037 ?_
  refine lv_lconst (v := 0) hx hb dX13_names1_1040 (by decide) ?_
  refine lv_iconst (v := 1) hx hb dX13_names1_1041 (by decide) ?_
  refine lv_iconst (v := 2) hx hb dX13_names1_1042 (by decide) ?_
  refine lv_iconst (v := 0) hx hb dX13_names1_1043 (by decide) ?_
  refine n1_step (dv := 92) (dv' := 93) hx hb hml hown hkw hfx hA (by decide) (by unfold vp_in; decide) hK0 hw hl (Nat.le_of_ble_eq_true rfl) (Nat.le_of_ble_eq_true rfl) dX13_names1_1044 (fun H locs hw => ?_)
  refine lv_aload_n hx hb dX13_names1_1047 rfl (lv_at hl 0 rfl) ?_
  refine lv_ldc2 (v := 1346981447) hx hb hown (hkw _ m_355) dX13_names1_1048 ?_
  refine lv_lconst (v := 0) hx hb dX13_names1_1051 (by decide) ?_
  refine lv_iconst (v := 0) hx hb dX13_names1_1052 (by decide) ?_
  refine lv_iconst (v := 1) hx hb dX13_names1_1053 (by decide) ?_
  refine lv_iconst (v := 0) hx hb dX13_names1_1054 (by decide) ?_
  refine n1_step (dv := 93) (dv' := 94) hx hb hml hown hkw hfx hA (by decide) (by unfold vp_in; decide) hK0 hw hl (Nat.le_of_ble_eq_true rfl) (Nat.le_of_ble_eq_true rfl) dX13_names1_1055 (fun H locs hw => ?_)
  refine lv_aload_n hx hb dX13_names1_1058 rfl (lv_at hl 0 rfl) ?_
  refine lv_ldc2 (v := 1162037327) hx hb hown (hkw _ m_356) dX13_names1_1059 ?_
  refine lv_lconst (v := 0) hx hb dX13_names1_1062 (by decide) ?_
  refine lv_iconst (v := 1) hx hb dX13_names1_1063 (by decide) ?_
  refine lv_iconst (v := 1) hx hb dX13_names1_1064 (by decide) ?_
  refine lv_iconst (v := 0) hx hb dX13_names1_1065 (by decide) ?_
  refine n1_step (dv := 94) (dv' := 95) hx hb hml hown hkw hfx hA (by decide) (by unfold vp_in; decide) hK0 hw hl (Nat.le_of_ble_eq_true rfl) (Nat.le_of_ble_eq_true rfl) dX13_names1_1066 (fun H locs hw => ?_)
  refine lv_aload_n hx hb dX13_names1_1069 rfl (lv_at hl 0 rfl) ?_
  refine lv_ldc2 (v := 1364543828) hx hb hown (hkw _ m_357) dX13_names1_1070 ?_
  refine lv_lconst (v := 0) hx hb dX13_names1_1073 (by decide) ?_
  refine lv_iconst (v := 0) hx hb dX13_names1_1074 (by decide) ?_
  refine lv_iconst (v := 0) hx hb dX13_names1_1075 (by decide) ?_
  refine lv_iconst (v := 0) hx hb dX13_names1_1076 (by decide) ?_
  refine n1_step (dv := 95) (dv' := 96) hx hb hml hown hkw hfx hA (by decide) (by unfold vp_in; decide) hK0 hw hl (Nat.le_of_ble_eq_true rfl) (Nat.le_of_ble_eq_true rfl) dX13_names1_1077 (fun H locs hw => ?_)
  refine lv_aload_n hx hb dX13_names1_1080 rfl (lv_at hl 0 rfl) ?_
  refine lv_ldc2 (v := 374758196040) hx hb hown (hkw _ m_358) dX13_names1_1081 ?_
  refine lv_lconst (v := 0) hx hb dX13_names1_1084 (by decide) ?_
  refine lv_iconst (v := 1) hx hb dX13_names1_1085 (by decide) ?_
  refine lv_iconst (v := (-1)) hx hb dX13_names1_1086 (by decide) ?_
  refine lv_iconst (v := 0) hx hb dX13_names1_1087 (by decide) ?_
  refine n1_step (dv := 96) (dv' := 97) hx hb hml hown hkw hfx hA (by decide) (by unfold vp_in; decide) hK0 hw hl (Nat.le_of_ble_eq_true rfl) (Nat.le_of_ble_eq_true rfl) dX13_names1_1088 (fun H locs hw => ?_)
  refine lv_aload_n hx hb dX13_names1_1091 rfl (lv_at hl 0 rfl) ?_
  refine lv_ldc2 (v := 24011509685568328) hx hb hown (hkw _ m_359) dX13_names1_1092 ?_
  refine lv_lconst (v := 0) hx hb dX13_names1_1095 (by decide) ?_
  refine lv_iconst (v := 0) hx hb dX13_names1_1096 (by decide) ?_
  refine lv_iconst (v := 0) hx hb dX13_names1_1097 (by decide) ?_
  refine lv_iconst (v := 0) hx hb dX13_names1_1098 (by decide) ?_
  refine n1_step (dv := 97) (dv' := 98) hx hb hml hown hkw hfx hA (by decide) (by unfold vp_in; decide) hK0 hw hl (Nat.le_of_ble_eq_true rfl) (Nat.le_of_ble_eq_true rfl) dX13_names1_1099 (fun H locs hw => ?_)
  refine lv_aload_n hx hb dX13_names1_1102 rfl (lv_at hl 0 rfl) ?_
  refine lv_ldc2 (v := 332143547465) hx hb hown (hkw _ m_360) dX13_names1_1103 ?_
  refine lv_lconst (v := 0) hx hb dX13_names1_1106 (by decide) ?_
  refine lv_iconst (v := 0) hx hb dX13_names1_1107 (by decide) ?_
  refine lv_iconst (v := 0) hx hb dX13_names1_1108 (by decide) ?_
  refine lv_iconst (v := 0) hx hb dX13_names1_1109 (by decide) ?_
  refine n1_step (dv := 98) (dv' := 99) hx hb hml hown hkw hfx hA (by decide) (by unfold vp_in; decide) hK0 hw hl (Nat.le_of_ble_eq_true rfl) (Nat.le_of_ble_eq_true rfl) dX13_names1_1110 (fun H locs hw => ?_)
  refine lv_aload_n hx hb dX13_names1_1113 rfl (lv_at hl 0 rfl) ?_
  refine lv_ldc2 (v := 1163412803) hx hb hown (hkw _ m_361) dX13_names1_1114 ?_
  refine lv_lconst (v := 0) hx hb dX13_names1_1117 (by decide) ?_
  refine lv_iconst (v := 0) hx hb dX13_names1_1118 (by decide) ?_
  refine lv_iconst (v := 0) hx hb dX13_names1_1119 (by decide) ?_
  refine lv_iconst (v := 0) hx hb dX13_names1_1120 (by decide) ?_
  refine n1_step (dv := 99) (dv' := 100) hx hb hml hown hkw hfx hA (by decide) (by unfold vp_in; decide) hK0 hw hl (Nat.le_of_ble_eq_true rfl) (Nat.le_of_ble_eq_true rfl) dX13_names1_1121 (fun H locs hw => ?_)
  refine lv_aload_n hx hb dX13_names1_1124 rfl (lv_at hl 0 rfl) ?_
  refine lv_ldc2 (v := 19220920375792196) hx hb hown (hkw _ m_362) dX13_names1_1125 ?_
  refine lv_lconst (v := 0) hx hb dX13_names1_1128 (by decide) ?_
  refine lv_iconst (v := 0) hx hb dX13_names1_1129 (by decide) ?_
  refine lv_iconst (v := 0) hx hb dX13_names1_1130 (by decide) ?_
  refine lv_iconst (v := 0) hx hb dX13_names1_1131 (by decide) ?_
  refine n1_step (dv := 100) (dv' := 101) hx hb hml hown hkw hfx hA (by decide) (by unfold vp_in; decide) hK0 hw hl (Nat.le_of_ble_eq_true rfl) (Nat.le_of_ble_eq_true rfl) dX13_names1_1132 (fun H locs hw => ?_)
  refine lv_aload_n hx hb dX13_names1_1135 rfl (lv_at hl 0 rfl) ?_
  refine lv_ldc2 (v := 6004778603547609410) hx hb hown (hkw _ m_363) dX13_names1_1136 ?_
  refine lv_ldc2 (v := 69) hx hb hown (hkw _ m_346) dX13_names1_1139 ?_
  refine lv_iconst (v := 1) hx hb dX13_names1_1142 (by decide) ?_
  refine lv_iconst (v := (-1)) hx hb dX13_names1_1143 (by decide) ?_
  refine lv_iconst (v := 0) hx hb dX13_names1_1144 (by decide) ?_
  refine n1_step (dv := 101) (dv' := 102) hx hb hml hown hkw hfx hA (by decide) (by unfold vp_in; decide) hK0 hw hl (Nat.le_of_ble_eq_true rfl) (Nat.le_of_ble_eq_true rfl) dX13_names1_1145 (fun H locs hw => ?_)
  refine lv_aload_n hx hb dX13_names1_1148 rfl (lv_at hl 0 rfl) ?_
  refine lv_ldc2 (v := 6146942167057384274) hx hb hown (hkw _ m_364) dX13_names1_1149 ?_
  refine lv_ldc2 (v := 4801093) hx hb hown (hkw _ m_365) dX13_names1_1152 ?_
  refine lv_iconst (v := 0) hx hb dX13_names1_1155 (by decide) ?_
  refine lv_iconst (v := (-1)) hx hb dX13_names1_1156 (by decide) ?_
  refine lv_iconst (v := 0) hx hb dX13_names1_1157 (by decide) ?_
  refine n1_step (dv := 102) (dv' := 103) hx hb hml hown hkw hfx hA (by decide) (by unfold vp_in; decide) hK0 hw hl (Nat.le_of_ble_eq_true rfl) (Nat.le_of_ble_eq_true rfl) dX13_names1_1158 (fun H locs hw => ?_)
  refine lv_aload_n hx hb dX13_names1_1161 rfl (lv_at hl 0 rfl) ?_
  refine lv_ldc2 (v := 22611741372928840) hx hb hown (hkw _ m_366) dX13_names1_1162 ?_
  refine lv_lconst (v := 0) hx hb dX13_names1_1165 (by decide) ?_
  refine lv_iconst (v := 2) hx hb dX13_names1_1166 (by decide) ?_
  refine lv_iconst (v := 2) hx hb dX13_names1_1167 (by decide) ?_
  refine lv_iconst (v := 0) hx hb dX13_names1_1168 (by decide) ?_
  refine n1_step (dv := 103) (dv' := 104) hx hb hml hown hkw hfx hA (by decide) (by unfold vp_in; decide) hK0 hw hl (Nat.le_of_ble_eq_true rfl) (Nat.le_of_ble_eq_true rfl) dX13_names1_1169 (fun H locs hw => ?_)
  refine lv_aload_n hx hb dX13_names1_1172 rfl (lv_at hl 0 rfl) ?_
  refine lv_ldc2 (v := 1414090053) hx hb hown (hkw _ m_367) dX13_names1_1173 ?_
  refine lv_lconst (v := 0) hx hb dX13_names1_1176 (by decide) ?_
  refine lv_iconst (v := 0) hx hb dX13_names1_1177 (by decide) ?_
  refine lv_iconst (v := 0) hx hb dX13_names1_1178 (by decide) ?_
  refine lv_iconst (v := 0) hx hb dX13_names1_1179 (by decide) ?_
  refine n1_step (dv := 104) (dv' := 105) hx hb hml hown hkw hfx hA (by decide) (by unfold vp_in; decide) hK0 hw hl (Nat.le_of_ble_eq_true rfl) (Nat.le_of_ble_eq_true rfl) dX13_names1_1180 (fun H locs hw => ?_)
  obtain ⟨f_nameA, f_nameB, f_least, f_most, f_heavy, hP, hD, hS⟩ := hw
  subst hmm
  subst hkk
  have hP : va_P (dC, dI) classes [(h0, .inr (10, [.int 0, .ref m_nameA, .ref m_nameB, .ref m_least, .ref m_most, .ref m_heavy, .int 105, .ref m_heap, .ref m_heap2, .int 0, .int 0, .ref m_order, .ref m_kFree, .int 0, .ref m_kAt, .ref m_kLen, .ref m_kSort, .ref m_kTime, .ref m_kTimed, .ref m_kHead, .ref m_kTail, .ref m_kMany, .ref m_tAt, .ref m_tLen, .ref m_eNext, .ref m_ePrev, .ref m_eAt, .ref m_eLen, .ref m_vAt, .ref m_vLen, .ref m_eScore, .int 0, .ref m_req, .int 0, .ref m_aAt, .ref m_aLen, .int 0, .ref m_opened, .ref m_input, .ref m_inSize, .ref m_output, .ref m_outSize, .ref m_blocked, .ref m_spoilt, .ref m_queue, .int 0, .ref m_queuedAt, .ref m_queued, .ref m_watches, .ref m_watchText, .int 0, .ref m_watchAt, .ref m_watchLen, .ref m_disturbed, .ref m_channels, .ref m_channelText, .int 0, .ref m_channelAt, .ref m_channelLen, .ref m_answer, .int 0, .int 0, .ref m_digits, .int 0, .ref m_disk, .int 0, .ref m_pending, .int 0, .int (-1), .int 1, .int 0, .int 0, .long 0, .ref m_spelt, .long 0, .long 0, .long 0, .int 0, .int 0, .int 0, .int 0, .int 0, .int 0, .int 0, .int 0, .int 0, .int 0, .long 0, .long 0, .int 0, .long 0, .int 0, .long 0, .long 0, .int 0, .int 0, .ref m_work, .int 0, .int 0, .int 0, .int 0, .int 0, .ref m_pile, .int 0, .ref m_mAt, .ref m_mLen, .int 0, .int 0, .ref m_held, .int 0, .int 0, .int 0, .ref m_tape, .int 0, .ref m_line0, .int 0])), (m_nameA, .inl (k_nameA, 128, .inr (.inl f_nameA))), (m_nameB, .inl (k_nameB, 128, .inr (.inl f_nameB))), (m_least, .inl (k_least, 128, .inl f_least)), (m_most, .inl (k_most, 128, .inl f_most)), (m_heavy, .inl (k_heavy, 128, .inl f_heavy))] H := hP
  have hD : va_D A [(h0, .inr (10, [.int 0, .ref m_nameA, .ref m_nameB, .ref m_least, .ref m_most, .ref m_heavy, .int 105, .ref m_heap, .ref m_heap2, .int 0, .int 0, .ref m_order, .ref m_kFree, .int 0, .ref m_kAt, .ref m_kLen, .ref m_kSort, .ref m_kTime, .ref m_kTimed, .ref m_kHead, .ref m_kTail, .ref m_kMany, .ref m_tAt, .ref m_tLen, .ref m_eNext, .ref m_ePrev, .ref m_eAt, .ref m_eLen, .ref m_vAt, .ref m_vLen, .ref m_eScore, .int 0, .ref m_req, .int 0, .ref m_aAt, .ref m_aLen, .int 0, .ref m_opened, .ref m_input, .ref m_inSize, .ref m_output, .ref m_outSize, .ref m_blocked, .ref m_spoilt, .ref m_queue, .int 0, .ref m_queuedAt, .ref m_queued, .ref m_watches, .ref m_watchText, .int 0, .ref m_watchAt, .ref m_watchLen, .ref m_disturbed, .ref m_channels, .ref m_channelText, .int 0, .ref m_channelAt, .ref m_channelLen, .ref m_answer, .int 0, .int 0, .ref m_digits, .int 0, .ref m_disk, .int 0, .ref m_pending, .int 0, .int (-1), .int 1, .int 0, .int 0, .long 0, .ref m_spelt, .long 0, .long 0, .long 0, .int 0, .int 0, .int 0, .int 0, .int 0, .int 0, .int 0, .int 0, .int 0, .int 0, .long 0, .long 0, .int 0, .long 0, .int 0, .long 0, .long 0, .int 0, .int 0, .ref m_work, .int 0, .int 0, .int 0, .int 0, .int 0, .ref m_pile, .int 0, .ref m_mAt, .ref m_mLen, .int 0, .int 0, .ref m_held, .int 0, .int 0, .int 0, .ref m_tape, .int 0, .ref m_line0, .int 0])), (m_nameA, .inl (k_nameA, 128, .inr (.inl f_nameA))), (m_nameB, .inl (k_nameB, 128, .inr (.inl f_nameB))), (m_least, .inl (k_least, 128, .inl f_least)), (m_most, .inl (k_most, 128, .inl f_most)), (m_heavy, .inl (k_heavy, 128, .inl f_heavy))] := hD
  have hP9 := hP.sub (ws' := [(h0, .inr (10, [.int 0, .ref m_nameA, .ref m_nameB, .ref m_least, .ref m_most, .ref m_heavy, .int 105, .ref m_heap, .ref m_heap2, .int 0, .int 0, .ref m_order, .ref m_kFree, .int 0, .ref m_kAt, .ref m_kLen, .ref m_kSort, .ref m_kTime, .ref m_kTimed, .ref m_kHead, .ref m_kTail, .ref m_kMany, .ref m_tAt, .ref m_tLen, .ref m_eNext, .ref m_ePrev, .ref m_eAt, .ref m_eLen, .ref m_vAt, .ref m_vLen, .ref m_eScore, .int 0, .ref m_req, .int 0, .ref m_aAt, .ref m_aLen, .int 0, .ref m_opened, .ref m_input, .ref m_inSize, .ref m_output, .ref m_outSize, .ref m_blocked, .ref m_spoilt, .ref m_queue, .int 0, .ref m_queuedAt, .ref m_queued, .ref m_watches, .ref m_watchText, .int 0, .ref m_watchAt, .ref m_watchLen, .ref m_disturbed, .ref m_channels, .ref m_channelText, .int 0, .ref m_channelAt, .ref m_channelLen, .ref m_answer, .int 0, .int 0, .ref m_digits, .int 0, .ref m_disk, .int 0, .ref m_pending, .int 0, .int (-1), .int 1, .int 0, .int 0, .long 0, .ref m_spelt, .long 0, .long 0, .long 0, .int 0, .int 0, .int 0, .int 0, .int 0, .int 0, .int 0, .int 0, .int 0, .int 0, .long 0, .long 0, .int 0, .long 0, .int 0, .long 0, .long 0, .int 0, .int 0, .ref m_work, .int 0, .int 0, .int 0, .int 0, .int 0, .ref m_pile, .int 0, .ref m_mAt, .ref m_mLen, .int 0, .int 0, .ref m_held, .int 0, .int 0, .int 0, .ref m_tape, .int 0, .ref m_line0, .int 0]))]) [0] rfl
  have hD9 := hD.sub (ws' := [(h0, .inr (10, [.int 0, .ref m_nameA, .ref m_nameB, .ref m_least, .ref m_most, .ref m_heavy, .int 105, .ref m_heap, .ref m_heap2, .int 0, .int 0, .ref m_order, .ref m_kFree, .int 0, .ref m_kAt, .ref m_kLen, .ref m_kSort, .ref m_kTime, .ref m_kTimed, .ref m_kHead, .ref m_kTail, .ref m_kMany, .ref m_tAt, .ref m_tLen, .ref m_eNext, .ref m_ePrev, .ref m_eAt, .ref m_eLen, .ref m_vAt, .ref m_vLen, .ref m_eScore, .int 0, .ref m_req, .int 0, .ref m_aAt, .ref m_aLen, .int 0, .ref m_opened, .ref m_input, .ref m_inSize, .ref m_output, .ref m_outSize, .ref m_blocked, .ref m_spoilt, .ref m_queue, .int 0, .ref m_queuedAt, .ref m_queued, .ref m_watches, .ref m_watchText, .int 0, .ref m_watchAt, .ref m_watchLen, .ref m_disturbed, .ref m_channels, .ref m_channelText, .int 0, .ref m_channelAt, .ref m_channelLen, .ref m_answer, .int 0, .int 0, .ref m_digits, .int 0, .ref m_disk, .int 0, .ref m_pending, .int 0, .int (-1), .int 1, .int 0, .int 0, .long 0, .ref m_spelt, .long 0, .long 0, .long 0, .int 0, .int 0, .int 0, .int 0, .int 0, .int 0, .int 0, .int 0, .int 0, .int 0, .long 0, .long 0, .int 0, .long 0, .int 0, .long 0, .long 0, .int 0, .int 0, .ref m_work, .int 0, .int 0, .int 0, .int 0, .int 0, .ref m_pile, .int 0, .ref m_mAt, .ref m_mLen, .int 0, .int 0, .ref m_held, .int 0, .int 0, .int 0, .ref m_tape, .int 0, .ref m_line0, .int 0]))]) [0] (by decide) rfl
  have hK9 := hK.sub (tys' := []) [] rfl
  refine W.widen (k := 0) (n := 0) (Nat.le_of_ble_eq_true rfl) (Nat.le_of_ble_eq_true rfl) ?_
  exact W.vret hx hb hr (fun t ht hW => ⟨⟨(), rfl, trivial, by rw [ht]; exact hP9, va_K.moved hW.alike hK9, hD9⟩, hS.F ht⟩) hS.2.2 dX13_names1_1183
