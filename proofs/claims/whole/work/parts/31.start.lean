/-! ===== the law's start: the bakery, its reference, the array out ===== -/
section NEWL
variable {p : Program} {l : Launch} {e : Env} {R : Room} {s : State} {m : MethodId} {args : Array Value} {below : List Frame} {meth : Method} {c : Code} {H : Heap} {locs : List Loc} {cells slots : Nat} {Q : State → Prop}
variable {cc : ByteArray} {pc : Nat} {ls : Array Slot} {rest : List Value} {D : va_G} {E : bE} {own : String} {nL : Nat} {a h : Nat} {mc ms : Nat}
theorem n_new (X : bCx p s m args meth c own cc nL D E) (hsz : H.size = h) (hS : va_S (fun q => a ≤ q) s.heap H locs) (ha : s.heap.size = a) (hTx0 : bTx s E a s.heap) {y : MethodName} {bytes : ByteArray} {maxL d N ciy ix is : Nat} {w9 : bM} {Ly : List bC} {f0 : List Value} {Z : bM → Prop} {C host : String} {T : u_T} {ty : Nat → FieldType}
    (hM : nMet l y bytes maxL d mc ms Ly ciy f0 Z) (hY : nYv y C bytes maxL N) (hk : bKl ciy C T N ty) (hf0 : ∀ j, j < N → defaultValue (ty j) = vp_V f0 j) (hlim : h + Ly.length ≤ E.2) (hZ : Z w9) (hcl : Cond.classLink own ix C ∈ wAll) (hw : Cond.methodLinkNest own is y host ∈ bNest ∨ Cond.methodLink own is y ∈ wAll) (hR : d + 1 ≤ R.frames ∧ 8 + (maxL + 11) + 40 * d ≤ R.locals) (hsize : ls.size = nL) (hW : (rest.map fun v => v.category).sum ≤ 7)
    (hf : cells + 1 + mc ≤ R.cells ∧ slots + N + ms ≤ R.slots) (d0 : decode cc pc = .ok (.new ix, 3)) (d3 : decode cc (pc + 3) = .ok (.dup, 1)) (d4 : decode cc (pc + 4) = .ok (.invokespecial is, 3))
    (kk : ∀ (H1 : Heap) (locs1 : List Loc), Blk D E Ly h w9 H1 → H1.size = h + Ly.length → (∀ q : Nat, q < h → H1[q]? = H[q]?) → va_S (fun q => a ≤ q) s.heap H1 locs1 → W p l e R s m args below meth c H1 locs1 (cells + 1 + mc) (slots + N + ms) Q (F0 m (pc + 7) ls (.ref h :: rest))) : W p l e R s m args below meth c H locs cells slots Q (F0 m pc ls rest) := by
  obtain ⟨⟨hC, hy1, hd⟩, hwi, hwn, hwini, hwc⟩ := hY
  subst hC
  have hah : a ≤ h := by
    have := hS.1
    omega
  have hKn := X.2.2.2.2.2.1.1.1 ciy _ hk.1
  refine W.newcK X.1 X.2.1 X.2.2.2.1 (X.2.2.2.2.1 _ hcl) (X.2.2.2.2.1 _ hwn) (X.2.2.2.2.1 _ hwini) (g := F0 m pc ls rest) rfl d0 (by omega) (by omega) hKn.2.1 hsz fun H1 kC hkC e1 z1 o1 => ?_
  refine lv_dup X.1 X.2.1 d3 rfl ?_
  have hat : va_at D vwCl (h, .inr (ciy, f0)) H1 := ⟨_, hk.1, (u_born ty X.2.2.2.2.1 hk.2.1 hKn hkC e1 hk.2.2.1).to hf0⟩
  have hTx : bTx s E h H1 := (hTx0.kept (fun q q1 q2 => (o1 q (by omega)).trans (hS.2.1 q q1 q2))).le (by omega)
  have hpre : PreS s H1 (va_Pc [.ref h] (nPre D E Ly h ciy f0)) (.ref h :: []) := ⟨nBlind D E Ly h ciy f0 [], fun U hU hWa => ⟨rfl, by rw [hU]; exact z1, by rw [hU]; exact hat, X.2.2.2.2.2.1.moved hWa, by omega, by rw [hU]; exact bTx.moved hWa.alike hTx⟩⟩
  have hW9 : ((Value.ref h :: rest).map fun v => v.category).sum ≤ 8 := by
    rw [List.map_cons, List.sum_cons]
    show 1 + _ ≤ 8
    omega
  have hrun : va_Run p l e R s m args below meth c H1 locs (cells + 1) (slots + N) mc ms (F0 m (pc + 4) ls (.ref h :: .ref h :: rest)) (.ref h :: rest) (nPost D E Ly h w9 (Value.ref h :: []).toArray) (fun q => h ≤ q) := by
    rcases hw with hw | hw
    · exact va_runIN (As := []) (Ts := wAll) ⟨X.1, X.2.1, X.2.2.1, X.2.2.2.1, X.2.2.2.2.1⟩ (hM D E h w9 hZ) ⟨va_cnB 0 X.2.2.2.2.1 (wGoodC hwc) rfl rfl rfl (X.2.2.2.2.2.1.2.1 _ hw) (X.2.2.2.2.1 _ hwini) hd hR, hy1, X.2.2.2.2.1 _ hwi⟩ hpre rfl rfl hsize rfl (lv_room hW9) d4 hf
    · exact va_runI (As := []) (Ts := wAll) ⟨X.1, X.2.1, X.2.2.1, X.2.2.2.1, X.2.2.2.2.1⟩ (hM D E h w9 hZ) (cwI 0 X.2.2.2.2.1 (wGoodC hwc) rfl rfl rfl (X.2.2.2.2.1 _ hwini) (X.2.2.2.2.1 _ hw) (X.2.2.2.2.1 _ hwi) hy1 hd hR) hpre rfl rfl hsize rfl (lv_room hW9) d4 hf
  intro T hT Xs
  obtain ⟨w, st₀, t, T', L9, h0, X', hL, e3, e4, ⟨hv, hblk, hts, hz, hkp⟩, st⟩ := hrun T hT Xs
  cases hv
  rw [h0] at hz hkp
  have hS1 : va_S (fun q => a ≤ q) s.heap t.heap (locs ++ L9) := ⟨by omega, fun q h1 h2 => by rw [hkp q (by omega) (by omega), o1 q (by omega)]; exact hS.2.1 q h1 h2, fun q hq => by
    rcases List.mem_append.mp hq with g | g
    · exact hS.2.2 q g
    · have := hL q g
      show a ≤ q.base
      omega⟩
  obtain ⟨t2, a1, r1⟩ := kk T'.heap (locs ++ L9) (by rw [e3]; exact hblk) (by rw [e3]; exact hts) (fun q hq => by rw [e3, hkp q (by omega) (by omega)]; exact o1 q hq) (by rw [e3]; exact hS1) T' rfl X'
  exact ⟨t2, st _ a1, r1⟩
end NEWL
