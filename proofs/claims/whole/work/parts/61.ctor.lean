/-! Constructors: new objects and arrays, calls that make some. -/
section ZK3
variable {p : Program} {l : Launch} {e : Env} {R : Room} {s : State} {m : MethodId} {args : Array Value} {below : List Frame} {meth : Method} {c : Code} {H : Heap} {locs : List Loc} {cells slots : Nat} {Q : State → Prop}
variable {cc : ByteArray} {pc nL : Nat} {ls : Array Slot} {rest : List Value} {D : va_G} {g : Nat → ClassId} {τ : Nat → Nat} {A : Nat → Prop} {a : Nat} {ws : va_W} {Ts : List Cond} {own : String}
theorem zk_kin {s : State} {cA : ClassId} {ty : FieldType} {k : Nat} (h : va_K D vwCl (zk_TY g ++ [(cA, ty)]) s) (hk : (zk_TY g)[k]? = some (g k, ty)) (h5 : k < 5) : cA = g k := by
  have h1 := (h.2 k (g k, ty) (by rw [List.getElem?_append_left (show k < (zk_TY g).length from h5)]; exact hk)).2
  have h2 := (h.2 5 (cA, ty) rfl).2
  cases ty with
  | object C =>
    obtain ⟨_, _, _, _, _, e1⟩ := h1
    obtain ⟨_, _, _, _, _, e2⟩ := h2
    exact Option.some.inj (e2.symm.trans e1)
  | array t =>
    simp only at h1 h2
    exact Option.some.inj (h2.symm.trans h1)
  | _ =>
    simp only at h1 h2
    exact Option.some.inj (h2.symm.trans h1)
theorem zk_newi (Z : CallFix p m c cc nL s args Ts own) (hA : ∀ q, s.heap.size ≤ q → A q) (harr : Cond.arrayClass .int ∈ Ts) (hK : va_K D vwCl (zk_TY g) s) (G : zk_G D A ws s H locs) {N : Nat} (hN : N < 2 ^ 31) (hb : N * 4 ≤ 536870912) (hcells : cells + 1 ≤ R.cells) (hslots : slots + N ≤ R.slots) (hdg : decode cc pc = .ok (.newarray .int, 2))
    (kk : ∀ (q : Nat) (H1 : Heap), zk_G D A (ws ++ [(q, .inl (g 0, N, .inl (fun _ => nI 0)))]) s H1 locs → W p l e R s m args below meth c H1 locs (cells + 1) (slots + N) Q (F0 m (pc + 2) ls (.ref q :: rest))) : W p l e R s m args below meth c H locs cells slots Q (F0 m pc ls (.int (nI N) :: rest)) := by
  refine va_newa Z.1 Z.2.1 (atype := .int) (Z.2.2.2.2 _ harr) (ty := .int) rfl hK G.1 G.2.1 G.2.2 hA (a0 := (N, .inl (fun _ => nI 0))) (fun cA => rfl) (nI_pos hN) (nI_clamp hN) hb hcells hslots hdg (fun q cA H1 hK1 h1 h2 h3 => ?_)
  obtain rfl : cA = g 0 := zk_kin (k := 0) hK1 rfl (by decide)
  exact kk q H1 ⟨h1, h2, h3⟩
theorem zk_newl (Z : CallFix p m c cc nL s args Ts own) (hA : ∀ q, s.heap.size ≤ q → A q) (harr : Cond.arrayClass .long ∈ Ts) (hK : va_K D vwCl (zk_TY g) s) (G : zk_G D A ws s H locs) {N : Nat} (hN : N < 2 ^ 31) (hb : N * 8 ≤ 536870912) (hcells : cells + 1 ≤ R.cells) (hslots : slots + N ≤ R.slots) (hdg : decode cc pc = .ok (.newarray .long, 2))
    (kk : ∀ (q : Nat) (H1 : Heap), zk_G D A (ws ++ [(q, .inl (g 1, N, .inr (.inl (fun _ => lN 0))))]) s H1 locs → W p l e R s m args below meth c H1 locs (cells + 1) (slots + N) Q (F0 m (pc + 2) ls (.ref q :: rest))) : W p l e R s m args below meth c H locs cells slots Q (F0 m pc ls (.int (nI N) :: rest)) := by
  refine va_newa Z.1 Z.2.1 (atype := .long) (Z.2.2.2.2 _ harr) (ty := .long) rfl hK G.1 G.2.1 G.2.2 hA (a0 := (N, .inr (.inl (fun _ => lN 0)))) (fun cA => rfl) (nI_pos hN) (nI_clamp hN) hb hcells hslots hdg (fun q cA H1 hK1 h1 h2 h3 => ?_)
  obtain rfl : cA = g 1 := zk_kin (k := 1) hK1 rfl (by decide)
  exact kk q H1 ⟨h1, h2, h3⟩
theorem zk_newb (Z : CallFix p m c cc nL s args Ts own) (hA : ∀ q, s.heap.size ≤ q → A q) (harr : Cond.arrayClass .byte ∈ Ts) (hK : va_K D vwCl (zk_TY g) s) (G : zk_G D A ws s H locs) {N : Nat} (hN : N < 2 ^ 31) (hb : N * 1 ≤ 536870912) (hcells : cells + 1 ≤ R.cells) (hslots : slots + N ≤ R.slots) (hdg : decode cc pc = .ok (.newarray .byte, 2))
    (kk : ∀ (q : Nat) (H1 : Heap), zk_G D A (ws ++ [(q, .inl (g 2, N, .inl (fun _ => nI 0)))]) s H1 locs → W p l e R s m args below meth c H1 locs (cells + 1) (slots + N) Q (F0 m (pc + 2) ls (.ref q :: rest))) : W p l e R s m args below meth c H locs cells slots Q (F0 m pc ls (.int (nI N) :: rest)) := by
  refine va_newa Z.1 Z.2.1 (atype := .byte) (Z.2.2.2.2 _ harr) (ty := .byte) rfl hK G.1 G.2.1 G.2.2 hA (a0 := (N, .inl (fun _ => nI 0))) (fun cA => rfl) (nI_pos hN) (nI_clamp hN) hb hcells hslots hdg (fun q cA H1 hK1 h1 h2 h3 => ?_)
  obtain rfl : cA = g 2 := zk_kin (k := 2) hK1 rfl (by decide)
  exact kk q H1 ⟨h1, h2, h3⟩
theorem zk_newz (Z : CallFix p m c cc nL s args Ts own) (hA : ∀ q, s.heap.size ≤ q → A q) (harr : Cond.arrayClass .boolean ∈ Ts) (hK : va_K D vwCl (zk_TY g) s) (G : zk_G D A ws s H locs) {N : Nat} (hN : N < 2 ^ 31) (hb : N * 1 ≤ 536870912) (hcells : cells + 1 ≤ R.cells) (hslots : slots + N ≤ R.slots) (hdg : decode cc pc = .ok (.newarray .boolean, 2))
    (kk : ∀ (q : Nat) (H1 : Heap), zk_G D A (ws ++ [(q, .inl (g 3, N, .inl (fun _ => nI 0)))]) s H1 locs → W p l e R s m args below meth c H1 locs (cells + 1) (slots + N) Q (F0 m (pc + 2) ls (.ref q :: rest))) : W p l e R s m args below meth c H locs cells slots Q (F0 m pc ls (.int (nI N) :: rest)) := by
  refine va_newa Z.1 Z.2.1 (atype := .boolean) (Z.2.2.2.2 _ harr) (ty := .boolean) rfl hK G.1 G.2.1 G.2.2 hA (a0 := (N, .inl (fun _ => nI 0))) (fun cA => rfl) (nI_pos hN) (nI_clamp hN) hb hcells hslots hdg (fun q cA H1 hK1 h1 h2 h3 => ?_)
  obtain rfl : cA = g 3 := zk_kin (k := 3) hK1 rfl (by decide)
  exact kk q H1 ⟨h1, h2, h3⟩
theorem zk_newq (Z : CallFix p m c cc nL s args Ts own) (hA : ∀ q, s.heap.size ≤ q → A q) (hov : va_AO "BehindBig$Shelf" s) {index : Nat} (hcl : Cond.classLink own index "BehindBig$Shelf" ∈ Ts) (hK : va_K D vwCl (zk_TY g) s) (G : zk_G D A ws s H locs) {N : Nat} (hN : N < 2 ^ 31) (hb : N * 4 ≤ 536870912) (hcells : cells + 1 ≤ R.cells) (hslots : slots + N ≤ R.slots) (hdg : decode cc pc = .ok (.anewarray index, 3))
    (kk : ∀ (q : Nat) (H1 : Heap), zk_G D A (ws ++ [(q, .inl (g 4, N, .inr (.inr (.inr (.inr (fun _ => none))))))]) s H1 locs → W p l e R s m args below meth c H1 locs (cells + 1) (slots + N) Q (F0 m (pc + 3) ls (.ref q :: rest))) : W p l e R s m args below meth c H locs cells slots Q (F0 m pc ls (.int (nI N) :: rest)) := by
  refine va_newq Z.1 Z.2.1 Z.2.2.2.1 (Z.2.2.2.2 _ hcl) hov hK G.1 G.2.1 G.2.2 hA (nI_pos hN) (nI_clamp hN) hb hcells hslots hdg (fun q cA H1 hK1 h1 h2 h3 => ?_)
  obtain rfl : cA = g 4 := zk_kin (k := 4) hK1 rfl (by decide)
  exact kk q H1 ⟨h1, h2, h3⟩
theorem zk_new {C : String} {T : u_T} {N ci index : Nat} (ty0 : Nat → FieldType) (hty : ∀ k, k < N → parseFieldDescriptor (T k).2.2.1 = some (ty0 k)) (Z : CallFix p m c cc nL s args Ts own) (hin : ∀ w ∈ u_ws C T N, w ∈ Ts) (hcl : Cond.classLink own index C ∈ Ts) (hinst : Cond.instantiable C N ∈ Ts) (hini : Cond.initialized C ∈ Ts) (hK : va_K D vwCl (zk_TY g) s) (hA : ∀ q, s.heap.size ≤ q → A q) (G : zk_G D A ws s H locs) (hc : vwCl[ci]? = some (C, T, N)) {fs : List Value} (hfs : ∀ j, j < N → defaultValue (ty0 j) = vp_V fs j) (hcells : cells + 1 ≤ R.cells) (hslots : slots + N ≤ R.slots) (hdg : decode cc pc = .ok (.new index, 3))
    (kk : ∀ (q : Nat) (H1 : Heap), zk_G D A (ws ++ [(q, .inr (ci, fs))]) s H1 locs → W p l e R s m args below meth c H1 locs (cells + 1) (slots + N) Q (F0 m (pc + 3) ls (.ref q :: rest))) : W p l e R s m args below meth c H locs cells slots Q (F0 m pc ls rest) := by
  refine va_new Z.1 Z.2.1 Z.2.2.2.2 hin ty0 hty Z.2.2.2.1 (Z.2.2.2.2 _ hcl) (Z.2.2.2.2 _ hinst) (Z.2.2.2.2 _ hini) hK G.1 G.2.1 G.2.2 hA hc hfs hcells hslots hdg (fun q H1 h1 h2 h3 => ?_)
  exact kk q H1 ⟨h1, h2, h3⟩
theorem zk_oinit (Z : CallFix p m c cc nL s args Ts own) (hsz : ls.size = nL) {index : Nat} (h1 : Cond.methodLink own index objectInit ∈ Ts) (h2 : Cond.instanceMethod objectInit ∈ Ts) (h3 : Cond.code objectInit ⟨#[0xb1]⟩ 1 none ∈ Ts) (hdg : decode cc pc = .ok (.invokespecial index, 3)) (hf : 1 ≤ R.frames) (hl : (rest.map fun v => v.category).sum + 12 ≤ R.locals)
    (kk : W p l e R s m args below meth c H locs cells slots Q (F0 m (pc + 3) ls rest)) : W p l e R s m args below meth c H locs cells slots Q (F0 m pc ls (.ref a :: rest)) := by
  exact W.objInit Z.1 Z.2.1 Z.2.2.2.1 (Z.2.2.2.2 _ h1) (Z.2.2.2.2 _ h2) (Z.2.2.2.2 _ h3) rfl (hsz.trans Z.2.2.1.symm) rfl hdg hf (by simpa using hl) kk
theorem zk_ri {Qc : Array Value → State → Outcome → State → Prop} {y : MethodName} {wd ws' : List Cond} {rm : Room} {wc : va_W} {b : Addr} {As st0 : List Value} {bytes : ByteArray} {maxL n index : Nat} (Z : CallFix p m c cc nL s args Ts own) (hM : Met l y wd rm (zk_Pc D g τ (.ref b :: As) wc H.size) Qc rm.cells rm.slots (va_A wc H.size)) (hK : va_K D vwCl (zk_TY g) s) (hT : zk_ST τ A s s.heap) (hA : ∀ q, s.heap.size ≤ q → A q) (G : zk_G D A ws s H locs) (isC : List Nat) (hC : isC.map (fun i => ws[i]?) = wc.map some) (hnC : va_nd isC = true) (hG : GoodIn Ts wd) (hw : wd = Cond.code y bytes maxL none :: ws') (hini : Cond.initialized y.cls ∈ Ts) (hlk : Cond.methodLink own index y ∈ Ts) (hinm : Cond.instanceMethod y ∈ Ts) (hy1 : y.name = "<init>") (hd : zk_dv y y.cls n) (hR : rm.frames + 1 ≤ R.frames ∧ 8 + (maxL + 11) + rm.locals ≤ R.locals) (hn : As.length = n) (hsize : ls.size = nL) (hst : st0 = As.reverse ++ .ref b :: rest) (hrm : (rest.map fun v => v.category).sum ≤ 8) (hdg : decode cc pc = .ok (.invokespecial index, 3)) (hf : cells + rm.cells ≤ R.cells ∧ slots + rm.slots ≤ R.slots) :
    va_Run p l e R s m args below meth c H locs cells slots rm.cells rm.slots (F0 m pc ls st0) rest (Qc (Value.ref b :: As).toArray) (va_A wc H.size) := by
  subst hst
  exact va_runI Z hM (cwI n Z.2.2.2.2 hG hw rfl rfl (Z.2.2.2.2 _ hini) (Z.2.2.2.2 _ hlk) (Z.2.2.2.2 _ hinm) hy1 hd.2 hR) (zk_pre hK hT hA G isC hC hnC) rfl hn hsize rfl (lv_room hrm) hdg hf
theorem zk_rin {Qc : Array Value → State → Outcome → State → Prop} {y : MethodName} {host : String} {wd ws' : List Cond} {rm : Room} {wc : va_W} {b : Addr} {As st0 : List Value} {bytes : ByteArray} {maxL n index : Nat} (Z : CallFix p m c cc nL s args Ts own) (hM : Met l y wd rm (zk_Pc D g τ (.ref b :: As) wc H.size) Qc rm.cells rm.slots (va_A wc H.size)) (hK : va_K D vwCl (zk_TY g) s) (hT : zk_ST τ A s s.heap) (hA : ∀ q, s.heap.size ≤ q → A q) (G : zk_G D A ws s H locs) (isC : List Nat) (hC : isC.map (fun i => ws[i]?) = wc.map some) (hnC : va_nd isC = true) (hG : GoodIn Ts wd) (hw : wd = Cond.code y bytes maxL none :: ws') (hnest : va_Nw (.methodLinkNest own index y host) s) (hini : Cond.initialized y.cls ∈ Ts) (hinm : Cond.instanceMethod y ∈ Ts) (hy1 : y.name = "<init>") (hd : zk_dv y y.cls n) (hR : rm.frames + 1 ≤ R.frames ∧ 8 + (maxL + 11) + rm.locals ≤ R.locals) (hn : As.length = n) (hsize : ls.size = nL) (hst : st0 = As.reverse ++ .ref b :: rest) (hrm : (rest.map fun v => v.category).sum ≤ 8) (hdg : decode cc pc = .ok (.invokespecial index, 3)) (hf : cells + rm.cells ≤ R.cells ∧ slots + rm.slots ≤ R.slots) :
    va_Run p l e R s m args below meth c H locs cells slots rm.cells rm.slots (F0 m pc ls st0) rest (Qc (Value.ref b :: As).toArray) (va_A wc H.size) := by
  subst hst
  exact va_runIN Z hM ⟨va_cnB n Z.2.2.2.2 hG hw rfl rfl hnest (Z.2.2.2.2 _ hini) hd.2 hR, hy1, Z.2.2.2.2 _ hinm⟩ (zk_pre hK hT hA G isC hC hnC) rfl hn hsize rfl (lv_room hrm) hdg hf
theorem zk_cvN {S : Type} {post : S → Prop} {W1 WF : S → va_W} {wc wr : va_W} {mc ms : Nat} {st0 : List Value} {aa : Array Value} (hr : va_Run p l e R s m args below meth c H locs cells slots mc ms (F0 m pc ls st0) rest (va_Qv post (zk_B D g (va_A wc H.size) W1) (va_A wc H.size) aa) (va_A wc H.size)) (hA : ∀ q, s.heap.size ≤ q → A q) (G : zk_G D A ws s H locs) (isC isR isF : List Nat) (hC : isC.map (fun i => ws[i]?) = wc.map some) (hR : isR.map (fun i => ws[i]?) = wr.map some) (hn : va_nd isR = true) (hdis : ∀ i ∈ isR, i ∉ isC) (hnF : va_nd isF = true) (hf : ∀ u, isF.map (fun i => (wr ++ W1 u)[i]?) = (WF u).map some)
    (kk : ∀ (u : S) (H1 : Heap) (locs1 : List Loc), post u → zk_G D A (WF u) s H1 locs1 → W p l e R s m args below meth c H1 locs1 (cells + mc) (slots + ms) Q (F0 m (pc + 3) ls rest)) : W p l e R s m args below meth c H locs cells slots Q (F0 m pc ls st0) := by
  have hF := va_free G.2.1 G.2.2 hA isC hC
  refine va_callv hr G.2.2 (fun q _ h => hF q h) hF (fun u t H1 locs1 ht hvm hw hB hz1 hk1 hS => ?_)
  obtain ⟨hP1, hK1, hD1⟩ := hB
  rw [ht] at hP1
  exact kk u H1 locs1 hw (zk_back G isC isR isF hC hR hn hdis hk1 hF hP1 hD1 hnF (hf u) hS)
theorem zk_aastq (Z : CallFix p m c cc nL s args Ts own) (hK : va_K D vwCl (zk_TY g) s) (G : zk_G D A ws s H locs) (q0 qk : Nat) {n v : Nat} {vs : List Value} {f f' : Nat → Option Nat} (ha : ws[q0]? = some (a, .inl (g 4, n, .inr (.inr (.inr (.inr f)))))) (hv : ws[qk]? = some (v, .inr (4, vs))) {k : Nat} (hk : k < n) (hn : n < 2 ^ 31) (hf' : va_up f k (some v) = f') {ws' : va_W} (hw : ws.set q0 (a, .inl (g 4, n, .inr (.inr (.inr (.inr f'))))) = ws') (hdg : decode cc pc = .ok (.aastore, 1))
    (kk : ∀ (H1 : Heap) (locs1 : List Loc), zk_G D A ws' s H1 locs1 → W p l e R s m args below meth c H1 locs1 cells slots Q (F0 m (pc + 1) ls rest)) : W p l e R s m args below meth c H locs cells slots Q (F0 m pc ls (.ref v :: .int (nI k) :: .ref a :: rest)) := by
  have e : (nI k).toNatClampNeg = k := nI_clamp (Nat.lt_trans hk hn)
  subst hf' hw
  refine va_astq Z.1 Z.2.1 hK G.1 G.2.1 G.2.2 q0 4 qk 4 ha rfl hv rfl (vp_in_nI hk hn) hdg (fun H1 locs1 h1 h2 h3 => ?_)
  rw [e] at h1 h2
  exact kk H1 locs1 ⟨h1, h2, h3⟩
end ZK3

abbrev rm_X0_init : Room := { frames := 1, cells := 4, slots := 160, locals := 30 }
theorem dvX0_init : zk_dv yX0_init RX0 0 := by decide +kernel
set_option maxRecDepth 100000 in
set_option maxHeartbeats 400000 in
theorem ct_X0_init (l : Launch) (D : va_G) (g : Nat → ClassId) (τ : Nat → Nat) (o0 : Nat)  : zk_MV l D g τ yX0_init wsX0_init rm_X0_init [.ref o0] [(o0, .inr (0, [.int (nI 0), .int (nI 0), .null, .null, .null, .null]))] (fun (uu : Nat × Nat × Nat × Nat) => True) (fun (uu : Nat × Nat × Nat × Nat) => [(o0, .inr (0, [.int (nI 0), .int (nI 0), .ref uu.1, .ref uu.2.1, .ref uu.2.2.1, .ref uu.2.2.2])), (uu.1, .inl (g 0, 40, .inl (fun _ => nI 0))), (uu.2.1, .inl (g 0, 40, .inl (fun _ => nI 0))), (uu.2.2.1, .inl (g 0, 40, .inl (fun _ => nI 0))), (uu.2.2.2, .inl (g 0, 40, .inl (fun _ => nI 0)))]) := by
  refine zk_of (Qc := fun A => va_Qv (fun (uu : Nat × Nat × Nat × Nat) => True) (zk_B D g A (fun (uu : Nat × Nat × Nat × Nat) => [(o0, .inr (0, [.int (nI 0), .int (nI 0), .ref uu.1, .ref uu.2.1, .ref uu.2.2.1, .ref uu.2.2.2])), (uu.1, .inl (g 0, 40, .inl (fun _ => nI 0))), (uu.2.1, .inl (g 0, 40, .inl (fun _ => nI 0))), (uu.2.2.1, .inl (g 0, 40, .inl (fun _ => nI 0))), (uu.2.2.2, .inl (g 0, 40, .inl (fun _ => nI 0)))])) A) (cc := cX0_init) (maxL := 1) (ret := none) (own := RX0) (by decide) rfl rfl (Nat.le_of_ble_eq_true rfl) ?_
  intro pP eE sS mM args below meth cC aA ls qQ Z hR_ hlk hnm hK hT hA hQ G hl
  have hinX0 : ∀ w ∈ u_ws RX0 TX0 6, w ∈ wsX0_init := (fun _ h => List.mem_cons_of_mem _ (List.mem_append_right _ h))
  refine lv_aload_n Z.1 Z.2.1 dX0_init_0 rfl (lv_at hl 0 rfl) ?_
  refine zk_oinit Z hl.1 (List.mem_of_getElem? (i := 1) rfl) (List.mem_of_getElem? (i := 2) rfl) (List.mem_of_getElem? (i := 3) rfl) dX0_init_1 (Nat.le_of_ble_eq_true rfl) (Nat.le_of_ble_eq_true rfl) ?_
  refine lv_aload_n Z.1 Z.2.1 dX0_init_4 rfl (lv_at hl 0 rfl) ?_
  refine lv_bipush (v := nI 40) Z.1 Z.2.1 dX0_init_5 (by decide +kernel) ?_
  refine zk_newi Z hA (List.mem_of_getElem? (i := 4) rfl) hK G (N := 40) (by decide) (Nat.le_of_ble_eq_true rfl) (Nat.le_of_ble_eq_true rfl) (Nat.le_of_ble_eq_true rfl) dX0_init_7 (fun q7 H G => ?_)
  refine zk_putF tyX0 tyX0_ok nmX0 (C := RX0) (T := TX0) (N := 6) (ci := 0) Z hnm hK G hinX0 0 rfl rfl 2 (by decide) (List.mem_of_getElem? (i := 5) rfl) rfl rfl rfl rfl (Nat.le_of_ble_eq_true rfl) (ws' := [(o0, .inr (0, [.int (nI 0), .int (nI 0), .ref q7, .null, .null, .null])), (q7, .inl (g 0, 40, .inl (fun _ => nI 0)))]) rfl dX0_init_9 (fun H locs G => ?_)
  refine lv_aload_n Z.1 Z.2.1 dX0_init_12 rfl (lv_at hl 0 rfl) ?_
  refine lv_bipush (v := nI 40) Z.1 Z.2.1 dX0_init_13 (by decide +kernel) ?_
  refine zk_newi Z hA (List.mem_of_getElem? (i := 4) rfl) hK G (N := 40) (by decide) (Nat.le_of_ble_eq_true rfl) (Nat.le_of_ble_eq_true rfl) (Nat.le_of_ble_eq_true rfl) dX0_init_15 (fun q15 H G => ?_)
  refine zk_putF tyX0 tyX0_ok nmX0 (C := RX0) (T := TX0) (N := 6) (ci := 0) Z hnm hK G hinX0 0 rfl rfl 3 (by decide) (List.mem_of_getElem? (i := 6) rfl) rfl rfl rfl rfl (Nat.le_of_ble_eq_true rfl) (ws' := [(o0, .inr (0, [.int (nI 0), .int (nI 0), .ref q7, .ref q15, .null, .null])), (q7, .inl (g 0, 40, .inl (fun _ => nI 0))), (q15, .inl (g 0, 40, .inl (fun _ => nI 0)))]) rfl dX0_init_17 (fun H locs G => ?_)
  refine lv_aload_n Z.1 Z.2.1 dX0_init_20 rfl (lv_at hl 0 rfl) ?_
  refine lv_bipush (v := nI 40) Z.1 Z.2.1 dX0_init_21 (by decide +kernel) ?_
  refine zk_newi Z hA (List.mem_of_getElem? (i := 4) rfl) hK G (N := 40) (by decide) (Nat.le_of_ble_eq_true rfl) (Nat.le_of_ble_eq_true rfl) (Nat.le_of_ble_eq_true rfl) dX0_init_23 (fun q23 H G => ?_)
  refine zk_putF tyX0 tyX0_ok nmX0 (C := RX0) (T := TX0) (N := 6) (ci := 0) Z hnm hK G hinX0 0 rfl rfl 4 (by decide) (List.mem_of_getElem? (i := 7) rfl) rfl rfl rfl rfl (Nat.le_of_ble_eq_true rfl) (ws' := [(o0, .inr (0, [.int (nI 0), .int (nI 0), .ref q7, .ref q15, .ref q23, .null])), (q7, .inl (g 0, 40, .inl (fun _ => nI 0))), (q15, .inl (g 0, 40, .inl (fun _ => nI 0))), (q23, .inl (g 0, 40, .inl (fun _ => nI 0)))]) rfl dX0_init_25 (fun H locs G => ?_)
  refine lv_aload_n Z.1 Z.2.1 dX0_init_28 rfl (lv_at hl 0 rfl) ?_
  refine lv_bipush (v := nI 40) Z.1 Z.2.1 dX0_init_29 (by decide +kernel) ?_
  refine zk_newi Z hA (List.mem_of_getElem? (i := 4) rfl) hK G (N := 40) (by decide) (Nat.le_of_ble_eq_true rfl) (Nat.le_of_ble_eq_true rfl) (Nat.le_of_ble_eq_true rfl) dX0_init_31 (fun q31 H G => ?_)
  refine zk_putF tyX0 tyX0_ok nmX0 (C := RX0) (T := TX0) (N := 6) (ci := 0) Z hnm hK G hinX0 0 rfl rfl 5 (by decide) (List.mem_of_getElem? (i := 8) rfl) rfl rfl rfl rfl (Nat.le_of_ble_eq_true rfl) (ws' := [(o0, .inr (0, [.int (nI 0), .int (nI 0), .ref q7, .ref q15, .ref q23, .ref q31])), (q7, .inl (g 0, 40, .inl (fun _ => nI 0))), (q15, .inl (g 0, 40, .inl (fun _ => nI 0))), (q23, .inl (g 0, 40, .inl (fun _ => nI 0))), (q31, .inl (g 0, 40, .inl (fun _ => nI 0)))]) rfl dX0_init_33 (fun H locs G => ?_)
  exact zk_retv Z hR_ hlk hK hQ G (q7, q15, q23, q31) trivial rfl dX0_init_36

abbrev rm_X1_init : Room := { frames := 1, cells := 5, slots := 46, locals := 30 }
theorem dvX1_init : zk_dv yX1_init RX1 0 := by decide +kernel
set_option maxRecDepth 100000 in
set_option maxHeartbeats 400000 in
theorem ct_X1_init (l : Launch) (D : va_G) (g : Nat → ClassId) (τ : Nat → Nat) (o0 : Nat)  : zk_MV l D g τ yX1_init wsX1_init rm_X1_init [.ref o0] [(o0, .inr (1, [.int (nI 0), .int (nI 0), .null, .null, .null, .null, .null]))] (fun (uu : Nat × Nat × Nat × Nat × Nat) => True) (fun (uu : Nat × Nat × Nat × Nat × Nat) => [(o0, .inr (1, [.int (nI 0), .int (nI 0), .ref uu.1, .ref uu.2.1, .ref uu.2.2.1, .ref uu.2.2.2.1, .ref uu.2.2.2.2])), (uu.1, .inl (g 0, 10, .inl (fun _ => nI 0))), (uu.2.1, .inl (g 0, 10, .inl (fun _ => nI 0))), (uu.2.2.1, .inl (g 0, 10, .inl (fun _ => nI 0))), (uu.2.2.2.1, .inl (g 0, 10, .inl (fun _ => nI 0))), (uu.2.2.2.2, .inl (g 0, 6, .inl (fun _ => nI 0)))]) := by
  refine zk_of (Qc := fun A => va_Qv (fun (uu : Nat × Nat × Nat × Nat × Nat) => True) (zk_B D g A (fun (uu : Nat × Nat × Nat × Nat × Nat) => [(o0, .inr (1, [.int (nI 0), .int (nI 0), .ref uu.1, .ref uu.2.1, .ref uu.2.2.1, .ref uu.2.2.2.1, .ref uu.2.2.2.2])), (uu.1, .inl (g 0, 10, .inl (fun _ => nI 0))), (uu.2.1, .inl (g 0, 10, .inl (fun _ => nI 0))), (uu.2.2.1, .inl (g 0, 10, .inl (fun _ => nI 0))), (uu.2.2.2.1, .inl (g 0, 10, .inl (fun _ => nI 0))), (uu.2.2.2.2, .inl (g 0, 6, .inl (fun _ => nI 0)))])) A) (cc := cX1_init) (maxL := 1) (ret := none) (own := RX1) (by decide) rfl rfl (Nat.le_of_ble_eq_true rfl) ?_
  intro pP eE sS mM args below meth cC aA ls qQ Z hR_ hlk hnm hK hT hA hQ G hl
  have hinX1 : ∀ w ∈ u_ws RX1 TX1 7, w ∈ wsX1_init := (fun _ h => List.mem_cons_of_mem _ (List.mem_append_right _ h))
  refine lv_aload_n Z.1 Z.2.1 dX1_init_0 rfl (lv_at hl 0 rfl) ?_
  refine zk_oinit Z hl.1 (List.mem_of_getElem? (i := 1) rfl) (List.mem_of_getElem? (i := 2) rfl) (List.mem_of_getElem? (i := 3) rfl) dX1_init_1 (Nat.le_of_ble_eq_true rfl) (Nat.le_of_ble_eq_true rfl) ?_
  refine lv_aload_n Z.1 Z.2.1 dX1_init_4 rfl (lv_at hl 0 rfl) ?_
  refine lv_bipush (v := nI 10) Z.1 Z.2.1 dX1_init_5 (by decide +kernel) ?_
  refine zk_newi Z hA (List.mem_of_getElem? (i := 4) rfl) hK G (N := 10) (by decide) (Nat.le_of_ble_eq_true rfl) (Nat.le_of_ble_eq_true rfl) (Nat.le_of_ble_eq_true rfl) dX1_init_7 (fun q7 H G => ?_)
  refine zk_putF tyX1 tyX1_ok nmX1 (C := RX1) (T := TX1) (N := 7) (ci := 1) Z hnm hK G hinX1 0 rfl rfl 2 (by decide) (List.mem_of_getElem? (i := 5) rfl) rfl rfl rfl rfl (Nat.le_of_ble_eq_true rfl) (ws' := [(o0, .inr (1, [.int (nI 0), .int (nI 0), .ref q7, .null, .null, .null, .null])), (q7, .inl (g 0, 10, .inl (fun _ => nI 0)))]) rfl dX1_init_9 (fun H locs G => ?_)
  refine lv_aload_n Z.1 Z.2.1 dX1_init_12 rfl (lv_at hl 0 rfl) ?_
  refine lv_bipush (v := nI 10) Z.1 Z.2.1 dX1_init_13 (by decide +kernel) ?_
  refine zk_newi Z hA (List.mem_of_getElem? (i := 4) rfl) hK G (N := 10) (by decide) (Nat.le_of_ble_eq_true rfl) (Nat.le_of_ble_eq_true rfl) (Nat.le_of_ble_eq_true rfl) dX1_init_15 (fun q15 H G => ?_)
  refine zk_putF tyX1 tyX1_ok nmX1 (C := RX1) (T := TX1) (N := 7) (ci := 1) Z hnm hK G hinX1 0 rfl rfl 3 (by decide) (List.mem_of_getElem? (i := 6) rfl) rfl rfl rfl rfl (Nat.le_of_ble_eq_true rfl) (ws' := [(o0, .inr (1, [.int (nI 0), .int (nI 0), .ref q7, .ref q15, .null, .null, .null])), (q7, .inl (g 0, 10, .inl (fun _ => nI 0))), (q15, .inl (g 0, 10, .inl (fun _ => nI 0)))]) rfl dX1_init_17 (fun H locs G => ?_)
  refine lv_aload_n Z.1 Z.2.1 dX1_init_20 rfl (lv_at hl 0 rfl) ?_
  refine lv_bipush (v := nI 10) Z.1 Z.2.1 dX1_init_21 (by decide +kernel) ?_
  refine zk_newi Z hA (List.mem_of_getElem? (i := 4) rfl) hK G (N := 10) (by decide) (Nat.le_of_ble_eq_true rfl) (Nat.le_of_ble_eq_true rfl) (Nat.le_of_ble_eq_true rfl) dX1_init_23 (fun q23 H G => ?_)
  refine zk_putF tyX1 tyX1_ok nmX1 (C := RX1) (T := TX1) (N := 7) (ci := 1) Z hnm hK G hinX1 0 rfl rfl 4 (by decide) (List.mem_of_getElem? (i := 7) rfl) rfl rfl rfl rfl (Nat.le_of_ble_eq_true rfl) (ws' := [(o0, .inr (1, [.int (nI 0), .int (nI 0), .ref q7, .ref q15, .ref q23, .null, .null])), (q7, .inl (g 0, 10, .inl (fun _ => nI 0))), (q15, .inl (g 0, 10, .inl (fun _ => nI 0))), (q23, .inl (g 0, 10, .inl (fun _ => nI 0)))]) rfl dX1_init_25 (fun H locs G => ?_)
  refine lv_aload_n Z.1 Z.2.1 dX1_init_28 rfl (lv_at hl 0 rfl) ?_
  refine lv_bipush (v := nI 10) Z.1 Z.2.1 dX1_init_29 (by decide +kernel) ?_
  refine zk_newi Z hA (List.mem_of_getElem? (i := 4) rfl) hK G (N := 10) (by decide) (Nat.le_of_ble_eq_true rfl) (Nat.le_of_ble_eq_true rfl) (Nat.le_of_ble_eq_true rfl) dX1_init_31 (fun q31 H G => ?_)
  refine zk_putF tyX1 tyX1_ok nmX1 (C := RX1) (T := TX1) (N := 7) (ci := 1) Z hnm hK G hinX1 0 rfl rfl 5 (by decide) (List.mem_of_getElem? (i := 8) rfl) rfl rfl rfl rfl (Nat.le_of_ble_eq_true rfl) (ws' := [(o0, .inr (1, [.int (nI 0), .int (nI 0), .ref q7, .ref q15, .ref q23, .ref q31, .null])), (q7, .inl (g 0, 10, .inl (fun _ => nI 0))), (q15, .inl (g 0, 10, .inl (fun _ => nI 0))), (q23, .inl (g 0, 10, .inl (fun _ => nI 0))), (q31, .inl (g 0, 10, .inl (fun _ => nI 0)))]) rfl dX1_init_33 (fun H locs G => ?_)
  refine lv_aload_n Z.1 Z.2.1 dX1_init_36 rfl (lv_at hl 0 rfl) ?_
  refine lv_bipush (v := nI 6) Z.1 Z.2.1 dX1_init_37 (by decide +kernel) ?_
  refine zk_newi Z hA (List.mem_of_getElem? (i := 4) rfl) hK G (N := 6) (by decide) (Nat.le_of_ble_eq_true rfl) (Nat.le_of_ble_eq_true rfl) (Nat.le_of_ble_eq_true rfl) dX1_init_39 (fun q39 H G => ?_)
  refine zk_putF tyX1 tyX1_ok nmX1 (C := RX1) (T := TX1) (N := 7) (ci := 1) Z hnm hK G hinX1 0 rfl rfl 6 (by decide) (List.mem_of_getElem? (i := 9) rfl) rfl rfl rfl rfl (Nat.le_of_ble_eq_true rfl) (ws' := [(o0, .inr (1, [.int (nI 0), .int (nI 0), .ref q7, .ref q15, .ref q23, .ref q31, .ref q39])), (q7, .inl (g 0, 10, .inl (fun _ => nI 0))), (q15, .inl (g 0, 10, .inl (fun _ => nI 0))), (q23, .inl (g 0, 10, .inl (fun _ => nI 0))), (q31, .inl (g 0, 10, .inl (fun _ => nI 0))), (q39, .inl (g 0, 6, .inl (fun _ => nI 0)))]) rfl dX1_init_41 (fun H locs G => ?_)
  exact zk_retv Z hR_ hlk hK hQ G (q7, q15, q23, q31, q39) trivial rfl dX1_init_44

abbrev rm_X2_init : Room := { frames := 1, cells := 7, slots := 766, locals := 30 }
theorem dvX2_init : zk_dv yX2_init RX2 0 := by decide +kernel
set_option maxRecDepth 100000 in
set_option maxHeartbeats 400000 in
theorem ct_X2_init (l : Launch) (D : va_G) (g : Nat → ClassId) (τ : Nat → Nat) (o0 : Nat)  : zk_MV l D g τ yX2_init wsX2_init rm_X2_init [.ref o0] [(o0, .inr (2, [.null, .null, .null, .null, .null, .null, .null, .int (nI 0), .int (nI 0), .int (nI 0), .int (nI 0), .int (nI 0)]))] (fun (uu : Nat × Nat × Nat × Nat × Nat × Nat × Nat) => True) (fun (uu : Nat × Nat × Nat × Nat × Nat × Nat × Nat) => [(o0, .inr (2, [.ref uu.1, .ref uu.2.1, .ref uu.2.2.1, .ref uu.2.2.2.1, .ref uu.2.2.2.2.1, .ref uu.2.2.2.2.2.1, .ref uu.2.2.2.2.2.2, .int (nI 0), .int (nI 0), .int (nI 0), .int (nI 0), .int (nI 0)])), (uu.1, .inl (g 0, 6, .inl (fun _ => nI 0))), (uu.2.1, .inl (g 0, 120, .inl (fun _ => nI 0))), (uu.2.2.1, .inl (g 0, 128, .inl (fun _ => nI 0))), (uu.2.2.2.1, .inl (g 0, 128, .inl (fun _ => nI 0))), (uu.2.2.2.2.1, .inl (g 0, 128, .inl (fun _ => nI 0))), (uu.2.2.2.2.2.1, .inl (g 0, 128, .inl (fun _ => nI 0))), (uu.2.2.2.2.2.2, .inl (g 0, 128, .inl (fun _ => nI 0)))]) := by
  refine zk_of (Qc := fun A => va_Qv (fun (uu : Nat × Nat × Nat × Nat × Nat × Nat × Nat) => True) (zk_B D g A (fun (uu : Nat × Nat × Nat × Nat × Nat × Nat × Nat) => [(o0, .inr (2, [.ref uu.1, .ref uu.2.1, .ref uu.2.2.1, .ref uu.2.2.2.1, .ref uu.2.2.2.2.1, .ref uu.2.2.2.2.2.1, .ref uu.2.2.2.2.2.2, .int (nI 0), .int (nI 0), .int (nI 0), .int (nI 0), .int (nI 0)])), (uu.1, .inl (g 0, 6, .inl (fun _ => nI 0))), (uu.2.1, .inl (g 0, 120, .inl (fun _ => nI 0))), (uu.2.2.1, .inl (g 0, 128, .inl (fun _ => nI 0))), (uu.2.2.2.1, .inl (g 0, 128, .inl (fun _ => nI 0))), (uu.2.2.2.2.1, .inl (g 0, 128, .inl (fun _ => nI 0))), (uu.2.2.2.2.2.1, .inl (g 0, 128, .inl (fun _ => nI 0))), (uu.2.2.2.2.2.2, .inl (g 0, 128, .inl (fun _ => nI 0)))])) A) (cc := cX2_init) (maxL := 1) (ret := none) (own := RX2) (by decide) rfl rfl (Nat.le_of_ble_eq_true rfl) ?_
  intro pP eE sS mM args below meth cC aA ls qQ Z hR_ hlk hnm hK hT hA hQ G hl
  have hinX2 : ∀ w ∈ u_ws RX2 TX2 12, w ∈ wsX2_init := (fun _ h => List.mem_cons_of_mem _ (List.mem_append_right _ h))
  refine lv_aload_n Z.1 Z.2.1 dX2_init_0 rfl (lv_at hl 0 rfl) ?_
  refine zk_oinit Z hl.1 (List.mem_of_getElem? (i := 1) rfl) (List.mem_of_getElem? (i := 2) rfl) (List.mem_of_getElem? (i := 3) rfl) dX2_init_1 (Nat.le_of_ble_eq_true rfl) (Nat.le_of_ble_eq_true rfl) ?_
  refine lv_aload_n Z.1 Z.2.1 dX2_init_4 rfl (lv_at hl 0 rfl) ?_
  refine lv_bipush (v := nI 6) Z.1 Z.2.1 dX2_init_5 (by decide +kernel) ?_
  refine zk_newi Z hA (List.mem_of_getElem? (i := 4) rfl) hK G (N := 6) (by decide) (Nat.le_of_ble_eq_true rfl) (Nat.le_of_ble_eq_true rfl) (Nat.le_of_ble_eq_true rfl) dX2_init_7 (fun q7 H G => ?_)
  refine zk_putF tyX2 tyX2_ok nmX2 (C := RX2) (T := TX2) (N := 12) (ci := 2) Z hnm hK G hinX2 0 rfl rfl 0 (by decide) (List.mem_of_getElem? (i := 5) rfl) rfl rfl rfl rfl (Nat.le_of_ble_eq_true rfl) (ws' := [(o0, .inr (2, [.ref q7, .null, .null, .null, .null, .null, .null, .int (nI 0), .int (nI 0), .int (nI 0), .int (nI 0), .int (nI 0)])), (q7, .inl (g 0, 6, .inl (fun _ => nI 0)))]) rfl dX2_init_9 (fun H locs G => ?_)
  refine lv_aload_n Z.1 Z.2.1 dX2_init_12 rfl (lv_at hl 0 rfl) ?_
  refine lv_bipush (v := nI 120) Z.1 Z.2.1 dX2_init_13 (by decide +kernel) ?_
  refine zk_newi Z hA (List.mem_of_getElem? (i := 4) rfl) hK G (N := 120) (by decide) (Nat.le_of_ble_eq_true rfl) (Nat.le_of_ble_eq_true rfl) (Nat.le_of_ble_eq_true rfl) dX2_init_15 (fun q15 H G => ?_)
  refine zk_putF tyX2 tyX2_ok nmX2 (C := RX2) (T := TX2) (N := 12) (ci := 2) Z hnm hK G hinX2 0 rfl rfl 1 (by decide) (List.mem_of_getElem? (i := 6) rfl) rfl rfl rfl rfl (Nat.le_of_ble_eq_true rfl) (ws' := [(o0, .inr (2, [.ref q7, .ref q15, .null, .null, .null, .null, .null, .int (nI 0), .int (nI 0), .int (nI 0), .int (nI 0), .int (nI 0)])), (q7, .inl (g 0, 6, .inl (fun _ => nI 0))), (q15, .inl (g 0, 120, .inl (fun _ => nI 0)))]) rfl dX2_init_17 (fun H locs G => ?_)
  refine lv_aload_n Z.1 Z.2.1 dX2_init_20 rfl (lv_at hl 0 rfl) ?_
  refine lv_sipush (v := nI 128) Z.1 Z.2.1 dX2_init_21 (by decide +kernel) ?_
  refine zk_newi Z hA (List.mem_of_getElem? (i := 4) rfl) hK G (N := 128) (by decide) (Nat.le_of_ble_eq_true rfl) (Nat.le_of_ble_eq_true rfl) (Nat.le_of_ble_eq_true rfl) dX2_init_24 (fun q24 H G => ?_)
  refine zk_putF tyX2 tyX2_ok nmX2 (C := RX2) (T := TX2) (N := 12) (ci := 2) Z hnm hK G hinX2 0 rfl rfl 2 (by decide) (List.mem_of_getElem? (i := 7) rfl) rfl rfl rfl rfl (Nat.le_of_ble_eq_true rfl) (ws' := [(o0, .inr (2, [.ref q7, .ref q15, .ref q24, .null, .null, .null, .null, .int (nI 0), .int (nI 0), .int (nI 0), .int (nI 0), .int (nI 0)])), (q7, .inl (g 0, 6, .inl (fun _ => nI 0))), (q15, .inl (g 0, 120, .inl (fun _ => nI 0))), (q24, .inl (g 0, 128, .inl (fun _ => nI 0)))]) rfl dX2_init_26 (fun H locs G => ?_)
  refine lv_aload_n Z.1 Z.2.1 dX2_init_29 rfl (lv_at hl 0 rfl) ?_
  refine lv_sipush (v := nI 128) Z.1 Z.2.1 dX2_init_30 (by decide +kernel) ?_
  refine zk_newi Z hA (List.mem_of_getElem? (i := 4) rfl) hK G (N := 128) (by decide) (Nat.le_of_ble_eq_true rfl) (Nat.le_of_ble_eq_true rfl) (Nat.le_of_ble_eq_true rfl) dX2_init_33 (fun q33 H G => ?_)
  refine zk_put tyX2 tyX2_ok nmX2 (C := RX2) (T := TX2) (N := 12) (ci := 2) Z hK G hinX2 0 rfl rfl 3 (by decide) (List.mem_of_getElem? (i := 8) rfl) rfl rfl rfl rfl (Nat.le_of_ble_eq_true rfl) (ws' := [(o0, .inr (2, [.ref q7, .ref q15, .ref q24, .ref q33, .null, .null, .null, .int (nI 0), .int (nI 0), .int (nI 0), .int (nI 0), .int (nI 0)])), (q7, .inl (g 0, 6, .inl (fun _ => nI 0))), (q15, .inl (g 0, 120, .inl (fun _ => nI 0))), (q24, .inl (g 0, 128, .inl (fun _ => nI 0))), (q33, .inl (g 0, 128, .inl (fun _ => nI 0)))]) rfl dX2_init_35 (fun H locs G => ?_)
  refine lv_aload_n Z.1 Z.2.1 dX2_init_38 rfl (lv_at hl 0 rfl) ?_
  refine lv_sipush (v := nI 128) Z.1 Z.2.1 dX2_init_39 (by decide +kernel) ?_
  refine zk_newi Z hA (List.mem_of_getElem? (i := 4) rfl) hK G (N := 128) (by decide) (Nat.le_of_ble_eq_true rfl) (Nat.le_of_ble_eq_true rfl) (Nat.le_of_ble_eq_true rfl) dX2_init_42 (fun q42 H G => ?_)
  refine zk_put tyX2 tyX2_ok nmX2 (C := RX2) (T := TX2) (N := 12) (ci := 2) Z hK G hinX2 0 rfl rfl 4 (by decide) (List.mem_of_getElem? (i := 9) rfl) rfl rfl rfl rfl (Nat.le_of_ble_eq_true rfl) (ws' := [(o0, .inr (2, [.ref q7, .ref q15, .ref q24, .ref q33, .ref q42, .null, .null, .int (nI 0), .int (nI 0), .int (nI 0), .int (nI 0), .int (nI 0)])), (q7, .inl (g 0, 6, .inl (fun _ => nI 0))), (q15, .inl (g 0, 120, .inl (fun _ => nI 0))), (q24, .inl (g 0, 128, .inl (fun _ => nI 0))), (q33, .inl (g 0, 128, .inl (fun _ => nI 0))), (q42, .inl (g 0, 128, .inl (fun _ => nI 0)))]) rfl dX2_init_44 (fun H locs G => ?_)
  refine lv_aload_n Z.1 Z.2.1 dX2_init_47 rfl (lv_at hl 0 rfl) ?_
  refine lv_sipush (v := nI 128) Z.1 Z.2.1 dX2_init_48 (by decide +kernel) ?_
  refine zk_newi Z hA (List.mem_of_getElem? (i := 4) rfl) hK G (N := 128) (by decide) (Nat.le_of_ble_eq_true rfl) (Nat.le_of_ble_eq_true rfl) (Nat.le_of_ble_eq_true rfl) dX2_init_51 (fun q51 H G => ?_)
  refine zk_put tyX2 tyX2_ok nmX2 (C := RX2) (T := TX2) (N := 12) (ci := 2) Z hK G hinX2 0 rfl rfl 5 (by decide) (List.mem_of_getElem? (i := 10) rfl) rfl rfl rfl rfl (Nat.le_of_ble_eq_true rfl) (ws' := [(o0, .inr (2, [.ref q7, .ref q15, .ref q24, .ref q33, .ref q42, .ref q51, .null, .int (nI 0), .int (nI 0), .int (nI 0), .int (nI 0), .int (nI 0)])), (q7, .inl (g 0, 6, .inl (fun _ => nI 0))), (q15, .inl (g 0, 120, .inl (fun _ => nI 0))), (q24, .inl (g 0, 128, .inl (fun _ => nI 0))), (q33, .inl (g 0, 128, .inl (fun _ => nI 0))), (q42, .inl (g 0, 128, .inl (fun _ => nI 0))), (q51, .inl (g 0, 128, .inl (fun _ => nI 0)))]) rfl dX2_init_53 (fun H locs G => ?_)
  refine lv_aload_n Z.1 Z.2.1 dX2_init_56 rfl (lv_at hl 0 rfl) ?_
  refine lv_sipush (v := nI 128) Z.1 Z.2.1 dX2_init_57 (by decide +kernel) ?_
  refine zk_newi Z hA (List.mem_of_getElem? (i := 4) rfl) hK G (N := 128) (by decide) (Nat.le_of_ble_eq_true rfl) (Nat.le_of_ble_eq_true rfl) (Nat.le_of_ble_eq_true rfl) dX2_init_60 (fun q60 H G => ?_)
  refine zk_put tyX2 tyX2_ok nmX2 (C := RX2) (T := TX2) (N := 12) (ci := 2) Z hK G hinX2 0 rfl rfl 6 (by decide) (List.mem_of_getElem? (i := 11) rfl) rfl rfl rfl rfl (Nat.le_of_ble_eq_true rfl) (ws' := [(o0, .inr (2, [.ref q7, .ref q15, .ref q24, .ref q33, .ref q42, .ref q51, .ref q60, .int (nI 0), .int (nI 0), .int (nI 0), .int (nI 0), .int (nI 0)])), (q7, .inl (g 0, 6, .inl (fun _ => nI 0))), (q15, .inl (g 0, 120, .inl (fun _ => nI 0))), (q24, .inl (g 0, 128, .inl (fun _ => nI 0))), (q33, .inl (g 0, 128, .inl (fun _ => nI 0))), (q42, .inl (g 0, 128, .inl (fun _ => nI 0))), (q51, .inl (g 0, 128, .inl (fun _ => nI 0))), (q60, .inl (g 0, 128, .inl (fun _ => nI 0)))]) rfl dX2_init_62 (fun H locs G => ?_)
  exact zk_retv Z hR_ hlk hK hQ G (q7, q15, q24, q33, q42, q51, q60) trivial rfl dX2_init_65

abbrev rm_X3_init : Room := { frames := 1, cells := 2, slots := 74, locals := 30 }
theorem dvX3_init : zk_dv yX3_init RX3 0 := by decide +kernel
set_option maxRecDepth 100000 in
set_option maxHeartbeats 400000 in
theorem ct_X3_init (l : Launch) (D : va_G) (g : Nat → ClassId) (τ : Nat → Nat) (o0 : Nat)  : zk_MV l D g τ yX3_init wsX3_init rm_X3_init [.ref o0] [(o0, .inr (3, [.int (nI 0), .int (nI 0), .null, .null, .int (nI 0)]))] (fun (uu : Nat × Nat) => True) (fun (uu : Nat × Nat) => [(o0, .inr (3, [.int (nI 0), .int (nI 0), .ref uu.1, .ref uu.2, .int (nI 0)])), (uu.1, .inl (g 0, 24, .inl (fun _ => nI 0))), (uu.2, .inl (g 0, 50, .inl (fun _ => nI 0)))]) := by
  refine zk_of (Qc := fun A => va_Qv (fun (uu : Nat × Nat) => True) (zk_B D g A (fun (uu : Nat × Nat) => [(o0, .inr (3, [.int (nI 0), .int (nI 0), .ref uu.1, .ref uu.2, .int (nI 0)])), (uu.1, .inl (g 0, 24, .inl (fun _ => nI 0))), (uu.2, .inl (g 0, 50, .inl (fun _ => nI 0)))])) A) (cc := cX3_init) (maxL := 1) (ret := none) (own := RX3) (by decide) rfl rfl (Nat.le_of_ble_eq_true rfl) ?_
  intro pP eE sS mM args below meth cC aA ls qQ Z hR_ hlk hnm hK hT hA hQ G hl
  have hinX3 : ∀ w ∈ u_ws RX3 TX3 5, w ∈ wsX3_init := (fun _ h => List.mem_cons_of_mem _ (List.mem_append_right _ h))
  refine lv_aload_n Z.1 Z.2.1 dX3_init_0 rfl (lv_at hl 0 rfl) ?_
  refine zk_oinit Z hl.1 (List.mem_of_getElem? (i := 1) rfl) (List.mem_of_getElem? (i := 2) rfl) (List.mem_of_getElem? (i := 3) rfl) dX3_init_1 (Nat.le_of_ble_eq_true rfl) (Nat.le_of_ble_eq_true rfl) ?_
  refine lv_aload_n Z.1 Z.2.1 dX3_init_4 rfl (lv_at hl 0 rfl) ?_
  refine lv_bipush (v := nI 24) Z.1 Z.2.1 dX3_init_5 (by decide +kernel) ?_
  refine zk_newi Z hA (List.mem_of_getElem? (i := 4) rfl) hK G (N := 24) (by decide) (Nat.le_of_ble_eq_true rfl) (Nat.le_of_ble_eq_true rfl) (Nat.le_of_ble_eq_true rfl) dX3_init_7 (fun q7 H G => ?_)
  refine zk_putF tyX3 tyX3_ok nmX3 (C := RX3) (T := TX3) (N := 5) (ci := 3) Z hnm hK G hinX3 0 rfl rfl 2 (by decide) (List.mem_of_getElem? (i := 5) rfl) rfl rfl rfl rfl (Nat.le_of_ble_eq_true rfl) (ws' := [(o0, .inr (3, [.int (nI 0), .int (nI 0), .ref q7, .null, .int (nI 0)])), (q7, .inl (g 0, 24, .inl (fun _ => nI 0)))]) rfl dX3_init_9 (fun H locs G => ?_)
  refine lv_aload_n Z.1 Z.2.1 dX3_init_12 rfl (lv_at hl 0 rfl) ?_
  refine lv_bipush (v := nI 50) Z.1 Z.2.1 dX3_init_13 (by decide +kernel) ?_
  refine zk_newi Z hA (List.mem_of_getElem? (i := 4) rfl) hK G (N := 50) (by decide) (Nat.le_of_ble_eq_true rfl) (Nat.le_of_ble_eq_true rfl) (Nat.le_of_ble_eq_true rfl) dX3_init_15 (fun q15 H G => ?_)
  refine zk_putF tyX3 tyX3_ok nmX3 (C := RX3) (T := TX3) (N := 5) (ci := 3) Z hnm hK G hinX3 0 rfl rfl 3 (by decide) (List.mem_of_getElem? (i := 6) rfl) rfl rfl rfl rfl (Nat.le_of_ble_eq_true rfl) (ws' := [(o0, .inr (3, [.int (nI 0), .int (nI 0), .ref q7, .ref q15, .int (nI 0)])), (q7, .inl (g 0, 24, .inl (fun _ => nI 0))), (q15, .inl (g 0, 50, .inl (fun _ => nI 0)))]) rfl dX3_init_17 (fun H locs G => ?_)
  exact zk_retv Z hR_ hlk hK hQ G (q7, q15) trivial rfl dX3_init_20

abbrev rm_X4_init : Room := { frames := 1, cells := 1, slots := 60, locals := 30 }
theorem dvX4_init : zk_dv yX4_init RX4 0 := by decide +kernel
set_option maxRecDepth 100000 in
set_option maxHeartbeats 400000 in
theorem ct_X4_init (l : Launch) (D : va_G) (g : Nat → ClassId) (τ : Nat → Nat) (o0 : Nat)  : zk_MV l D g τ yX4_init wsX4_init rm_X4_init [.ref o0] [(o0, .inr (4, [.null, .int (nI 0), .int (nI 0), .int (nI 0)]))] (fun (u0 : Nat) => True) (fun (u0 : Nat) => [(o0, .inr (4, [.ref u0, .int (-1), .int (nI 0), .int (-1)])), (u0, .inl (g 1, 60, .inr (.inl (fun _ => lN 0))))]) := by
  refine zk_of (Qc := fun A => va_Qv (fun (u0 : Nat) => True) (zk_B D g A (fun (u0 : Nat) => [(o0, .inr (4, [.ref u0, .int (-1), .int (nI 0), .int (-1)])), (u0, .inl (g 1, 60, .inr (.inl (fun _ => lN 0))))])) A) (cc := cX4_init) (maxL := 1) (ret := none) (own := RX4) (by decide) rfl rfl (Nat.le_of_ble_eq_true rfl) ?_
  intro pP eE sS mM args below meth cC aA ls qQ Z hR_ hlk hnm hK hT hA hQ G hl
  have hinX4 : ∀ w ∈ u_ws RX4 TX4 4, w ∈ wsX4_init := (fun _ h => List.mem_cons_of_mem _ (List.mem_append_right _ h))
  refine lv_aload_n Z.1 Z.2.1 dX4_init_0 rfl (lv_at hl 0 rfl) ?_
  refine zk_oinit Z hl.1 (List.mem_of_getElem? (i := 1) rfl) (List.mem_of_getElem? (i := 2) rfl) (List.mem_of_getElem? (i := 3) rfl) dX4_init_1 (Nat.le_of_ble_eq_true rfl) (Nat.le_of_ble_eq_true rfl) ?_
  refine lv_aload_n Z.1 Z.2.1 dX4_init_4 rfl (lv_at hl 0 rfl) ?_
  refine lv_bipush (v := nI 60) Z.1 Z.2.1 dX4_init_5 (by decide +kernel) ?_
  refine zk_newl Z hA (List.mem_of_getElem? (i := 4) rfl) hK G (N := 60) (by decide) (Nat.le_of_ble_eq_true rfl) (Nat.le_of_ble_eq_true rfl) (Nat.le_of_ble_eq_true rfl) dX4_init_7 (fun q7 H G => ?_)
  refine zk_putF tyX4 tyX4_ok nmX4 (C := RX4) (T := TX4) (N := 4) (ci := 4) Z hnm hK G hinX4 0 rfl rfl 0 (by decide) (List.mem_of_getElem? (i := 5) rfl) rfl rfl rfl rfl (Nat.le_of_ble_eq_true rfl) (ws' := [(o0, .inr (4, [.ref q7, .int (nI 0), .int (nI 0), .int (nI 0)])), (q7, .inl (g 1, 60, .inr (.inl (fun _ => lN 0))))]) rfl dX4_init_9 (fun H locs G => ?_)
  refine lv_aload_n Z.1 Z.2.1 dX4_init_12 rfl (lv_at hl 0 rfl) ?_
  refine lv_iconst (v := (-1)) Z.1 Z.2.1 dX4_init_13 (by decide +kernel) ?_
  refine zk_put tyX4 tyX4_ok nmX4 (C := RX4) (T := TX4) (N := 4) (ci := 4) Z hK G hinX4 0 rfl rfl 1 (by decide) (List.mem_of_getElem? (i := 6) rfl) rfl rfl rfl rfl (Nat.le_of_ble_eq_true rfl) (ws' := [(o0, .inr (4, [.ref q7, .int (-1), .int (nI 0), .int (nI 0)])), (q7, .inl (g 1, 60, .inr (.inl (fun _ => lN 0))))]) rfl dX4_init_14 (fun H locs G => ?_)
  refine lv_aload_n Z.1 Z.2.1 dX4_init_17 rfl (lv_at hl 0 rfl) ?_
  refine lv_iconst (v := (-1)) Z.1 Z.2.1 dX4_init_18 (by decide +kernel) ?_
  refine zk_put tyX4 tyX4_ok nmX4 (C := RX4) (T := TX4) (N := 4) (ci := 4) Z hK G hinX4 0 rfl rfl 3 (by decide) (List.mem_of_getElem? (i := 7) rfl) rfl rfl rfl rfl (Nat.le_of_ble_eq_true rfl) (ws' := [(o0, .inr (4, [.ref q7, .int (-1), .int (nI 0), .int (-1)])), (q7, .inl (g 1, 60, .inr (.inl (fun _ => lN 0))))]) rfl dX4_init_19 (fun H locs G => ?_)
  exact zk_retv Z hR_ hlk hK hQ G q7 trivial rfl dX4_init_22

abbrev rm_X5_init : Room := { frames := 1, cells := 5, slots := 3052, locals := 30 }
theorem dvX5_init : zk_dv yX5_init RX5 1 := by decide +kernel
set_option maxRecDepth 100000 in
set_option maxHeartbeats 400000 in
theorem ct_X5_init (l : Launch) (D : va_G) (g : Nat → ClassId) (τ : Nat → Nat) (o0 : Nat) (t0 : Nat)  : zk_MV l D g τ yX5_init wsX5_init rm_X5_init [.ref o0, .ref t0] [(o0, .inr (5, [.null, .null, .null, .int (nI 0), .int (nI 0), .null, .null, .null, .int (nI 0), .int (nI 0), .int (zk_b false)]))] (fun (uu : Nat × Nat × Nat × Nat × Nat) => True) (fun (uu : Nat × Nat × Nat × Nat × Nat) => [(o0, .inr (5, [.ref uu.1, .ref uu.2.1, .ref uu.2.2.1, .int (nI 0), .int (nI 30), .ref t0, .ref uu.2.2.2.1, .ref uu.2.2.2.2, .int (nI 0), .int (nI 0), .int (zk_b false)])), (uu.1, .inl (g 0, 7, .inl (fun _ => nI 0))), (uu.2.1, .inl (g 0, 7, .inl (fun _ => nI 0))), (uu.2.2.1, .inl (g 0, 7, .inl (fun _ => nI 0))), (uu.2.2.2.1, .inl (g 2, 3024, .inl (fun _ => nI 0))), (uu.2.2.2.2, .inl (g 0, 7, .inl (fun _ => nI 0)))]) := by
  refine zk_of (Qc := fun A => va_Qv (fun (uu : Nat × Nat × Nat × Nat × Nat) => True) (zk_B D g A (fun (uu : Nat × Nat × Nat × Nat × Nat) => [(o0, .inr (5, [.ref uu.1, .ref uu.2.1, .ref uu.2.2.1, .int (nI 0), .int (nI 30), .ref t0, .ref uu.2.2.2.1, .ref uu.2.2.2.2, .int (nI 0), .int (nI 0), .int (zk_b false)])), (uu.1, .inl (g 0, 7, .inl (fun _ => nI 0))), (uu.2.1, .inl (g 0, 7, .inl (fun _ => nI 0))), (uu.2.2.1, .inl (g 0, 7, .inl (fun _ => nI 0))), (uu.2.2.2.1, .inl (g 2, 3024, .inl (fun _ => nI 0))), (uu.2.2.2.2, .inl (g 0, 7, .inl (fun _ => nI 0)))])) A) (cc := cX5_init) (maxL := 2) (ret := none) (own := RX5) (by decide) rfl rfl (Nat.le_of_ble_eq_true rfl) ?_
  intro pP eE sS mM args below meth cC aA ls qQ Z hR_ hlk hnm hK hT hA hQ G hl
  have hinX5 : ∀ w ∈ u_ws RX5 TX5 11, w ∈ wsX5_init := (fun _ h => List.mem_cons_of_mem _ (List.mem_append_right _ h))
  refine lv_aload_n Z.1 Z.2.1 dX5_init_0 rfl (lv_at hl 0 rfl) ?_
  refine zk_oinit Z hl.1 (List.mem_of_getElem? (i := 1) rfl) (List.mem_of_getElem? (i := 2) rfl) (List.mem_of_getElem? (i := 3) rfl) dX5_init_1 (Nat.le_of_ble_eq_true rfl) (Nat.le_of_ble_eq_true rfl) ?_
  refine lv_aload_n Z.1 Z.2.1 dX5_init_4 rfl (lv_at hl 0 rfl) ?_
  refine lv_bipush (v := nI 7) Z.1 Z.2.1 dX5_init_5 (by decide +kernel) ?_
  refine zk_newi Z hA (List.mem_of_getElem? (i := 4) rfl) hK G (N := 7) (by decide) (Nat.le_of_ble_eq_true rfl) (Nat.le_of_ble_eq_true rfl) (Nat.le_of_ble_eq_true rfl) dX5_init_7 (fun q7 H G => ?_)
  refine zk_putF tyX5 tyX5_ok nmX5 (C := RX5) (T := TX5) (N := 11) (ci := 5) Z hnm hK G hinX5 0 rfl rfl 0 (by decide) (List.mem_of_getElem? (i := 5) rfl) rfl rfl rfl rfl (Nat.le_of_ble_eq_true rfl) (ws' := [(o0, .inr (5, [.ref q7, .null, .null, .int (nI 0), .int (nI 0), .null, .null, .null, .int (nI 0), .int (nI 0), .int (zk_b false)])), (q7, .inl (g 0, 7, .inl (fun _ => nI 0)))]) rfl dX5_init_9 (fun H locs G => ?_)
  refine lv_aload_n Z.1 Z.2.1 dX5_init_12 rfl (lv_at hl 0 rfl) ?_
  refine lv_bipush (v := nI 7) Z.1 Z.2.1 dX5_init_13 (by decide +kernel) ?_
  refine zk_newi Z hA (List.mem_of_getElem? (i := 4) rfl) hK G (N := 7) (by decide) (Nat.le_of_ble_eq_true rfl) (Nat.le_of_ble_eq_true rfl) (Nat.le_of_ble_eq_true rfl) dX5_init_15 (fun q15 H G => ?_)
  refine zk_putF tyX5 tyX5_ok nmX5 (C := RX5) (T := TX5) (N := 11) (ci := 5) Z hnm hK G hinX5 0 rfl rfl 1 (by decide) (List.mem_of_getElem? (i := 6) rfl) rfl rfl rfl rfl (Nat.le_of_ble_eq_true rfl) (ws' := [(o0, .inr (5, [.ref q7, .ref q15, .null, .int (nI 0), .int (nI 0), .null, .null, .null, .int (nI 0), .int (nI 0), .int (zk_b false)])), (q7, .inl (g 0, 7, .inl (fun _ => nI 0))), (q15, .inl (g 0, 7, .inl (fun _ => nI 0)))]) rfl dX5_init_17 (fun H locs G => ?_)
  refine lv_aload_n Z.1 Z.2.1 dX5_init_20 rfl (lv_at hl 0 rfl) ?_
  refine lv_bipush (v := nI 7) Z.1 Z.2.1 dX5_init_21 (by decide +kernel) ?_
  refine zk_newi Z hA (List.mem_of_getElem? (i := 4) rfl) hK G (N := 7) (by decide) (Nat.le_of_ble_eq_true rfl) (Nat.le_of_ble_eq_true rfl) (Nat.le_of_ble_eq_true rfl) dX5_init_23 (fun q23 H G => ?_)
  refine zk_putF tyX5 tyX5_ok nmX5 (C := RX5) (T := TX5) (N := 11) (ci := 5) Z hnm hK G hinX5 0 rfl rfl 2 (by decide) (List.mem_of_getElem? (i := 7) rfl) rfl rfl rfl rfl (Nat.le_of_ble_eq_true rfl) (ws' := [(o0, .inr (5, [.ref q7, .ref q15, .ref q23, .int (nI 0), .int (nI 0), .null, .null, .null, .int (nI 0), .int (nI 0), .int (zk_b false)])), (q7, .inl (g 0, 7, .inl (fun _ => nI 0))), (q15, .inl (g 0, 7, .inl (fun _ => nI 0))), (q23, .inl (g 0, 7, .inl (fun _ => nI 0)))]) rfl dX5_init_25 (fun H locs G => ?_)
  refine lv_aload_n Z.1 Z.2.1 dX5_init_28 rfl (lv_at hl 0 rfl) ?_
  refine lv_bipush (v := nI 30) Z.1 Z.2.1 dX5_init_29 (by decide +kernel) ?_
  refine zk_put tyX5 tyX5_ok nmX5 (C := RX5) (T := TX5) (N := 11) (ci := 5) Z hK G hinX5 0 rfl rfl 4 (by decide) (List.mem_of_getElem? (i := 8) rfl) rfl rfl rfl rfl (Nat.le_of_ble_eq_true rfl) (ws' := [(o0, .inr (5, [.ref q7, .ref q15, .ref q23, .int (nI 0), .int (nI 30), .null, .null, .null, .int (nI 0), .int (nI 0), .int (zk_b false)])), (q7, .inl (g 0, 7, .inl (fun _ => nI 0))), (q15, .inl (g 0, 7, .inl (fun _ => nI 0))), (q23, .inl (g 0, 7, .inl (fun _ => nI 0)))]) rfl dX5_init_31 (fun H locs G => ?_)
  refine lv_aload_n Z.1 Z.2.1 dX5_init_34 rfl (lv_at hl 0 rfl) ?_
  refine lv_sipush (v := nI 3024) Z.1 Z.2.1 dX5_init_35 (by decide +kernel) ?_
  refine zk_newb Z hA (List.mem_of_getElem? (i := 9) rfl) hK G (N := 3024) (by decide) (Nat.le_of_ble_eq_true rfl) (Nat.le_of_ble_eq_true rfl) (Nat.le_of_ble_eq_true rfl) dX5_init_38 (fun q38 H G => ?_)
  refine zk_putF tyX5 tyX5_ok nmX5 (C := RX5) (T := TX5) (N := 11) (ci := 5) Z hnm hK G hinX5 0 rfl rfl 6 (by decide) (List.mem_of_getElem? (i := 10) rfl) rfl rfl rfl rfl (Nat.le_of_ble_eq_true rfl) (ws' := [(o0, .inr (5, [.ref q7, .ref q15, .ref q23, .int (nI 0), .int (nI 30), .null, .ref q38, .null, .int (nI 0), .int (nI 0), .int (zk_b false)])), (q7, .inl (g 0, 7, .inl (fun _ => nI 0))), (q15, .inl (g 0, 7, .inl (fun _ => nI 0))), (q23, .inl (g 0, 7, .inl (fun _ => nI 0))), (q38, .inl (g 2, 3024, .inl (fun _ => nI 0)))]) rfl dX5_init_40 (fun H locs G => ?_)
  refine lv_aload_n Z.1 Z.2.1 dX5_init_43 rfl (lv_at hl 0 rfl) ?_
  refine lv_bipush (v := nI 7) Z.1 Z.2.1 dX5_init_44 (by decide +kernel) ?_
  refine zk_newi Z hA (List.mem_of_getElem? (i := 4) rfl) hK G (N := 7) (by decide) (Nat.le_of_ble_eq_true rfl) (Nat.le_of_ble_eq_true rfl) (Nat.le_of_ble_eq_true rfl) dX5_init_46 (fun q46 H G => ?_)
  refine zk_putF tyX5 tyX5_ok nmX5 (C := RX5) (T := TX5) (N := 11) (ci := 5) Z hnm hK G hinX5 0 rfl rfl 7 (by decide) (List.mem_of_getElem? (i := 11) rfl) rfl rfl rfl rfl (Nat.le_of_ble_eq_true rfl) (ws' := [(o0, .inr (5, [.ref q7, .ref q15, .ref q23, .int (nI 0), .int (nI 30), .null, .ref q38, .ref q46, .int (nI 0), .int (nI 0), .int (zk_b false)])), (q7, .inl (g 0, 7, .inl (fun _ => nI 0))), (q15, .inl (g 0, 7, .inl (fun _ => nI 0))), (q23, .inl (g 0, 7, .inl (fun _ => nI 0))), (q38, .inl (g 2, 3024, .inl (fun _ => nI 0))), (q46, .inl (g 0, 7, .inl (fun _ => nI 0)))]) rfl dX5_init_48 (fun H locs G => ?_)
  refine lv_aload_n Z.1 Z.2.1 dX5_init_51 rfl (lv_at hl 0 rfl) ?_
  refine lv_aload_n Z.1 Z.2.1 dX5_init_52 rfl (lv_at hl 1 rfl) ?_
  refine zk_putF tyX5 tyX5_ok nmX5 (C := RX5) (T := TX5) (N := 11) (ci := 5) Z hnm hK G hinX5 0 rfl rfl 5 (by decide) (List.mem_of_getElem? (i := 12) rfl) rfl rfl rfl rfl (Nat.le_of_ble_eq_true rfl) (ws' := [(o0, .inr (5, [.ref q7, .ref q15, .ref q23, .int (nI 0), .int (nI 30), .ref t0, .ref q38, .ref q46, .int (nI 0), .int (nI 0), .int (zk_b false)])), (q7, .inl (g 0, 7, .inl (fun _ => nI 0))), (q15, .inl (g 0, 7, .inl (fun _ => nI 0))), (q23, .inl (g 0, 7, .inl (fun _ => nI 0))), (q38, .inl (g 2, 3024, .inl (fun _ => nI 0))), (q46, .inl (g 0, 7, .inl (fun _ => nI 0)))]) rfl dX5_init_53 (fun H locs G => ?_)
  exact zk_retv Z hR_ hlk hK hQ G (q7, q15, q23, q38, q46) trivial rfl dX5_init_56

abbrev rm_X6_init : Room := { frames := 1, cells := 4, slots := 4220, locals := 30 }
theorem dvX6_init : zk_dv yX6_init RX6 1 := by decide +kernel
set_option maxRecDepth 100000 in
set_option maxHeartbeats 400000 in
theorem ct_X6_init (l : Launch) (D : va_G) (g : Nat → ClassId) (τ : Nat → Nat) (o0 : Nat) (t0 : Nat)  : zk_MV l D g τ yX6_init wsX6_init rm_X6_init [.ref o0, .ref t0] [(o0, .inr (6, [.int (nI 0), .int (nI 0), .int (nI 0), .int (nI 0), .null, .int (zk_b false), .int (nI 0), .int (nI 0), .int (nI 0), .int (nI 0), .null, .null, .null, .null]))] (fun (uu : Nat × Nat × Nat × Nat) => True) (fun (uu : Nat × Nat × Nat × Nat) => [(o0, .inr (6, [.int (nI 0), .int (nI 0), .int (nI 0), .int (nI 0), .ref t0, .int (zk_b false), .int (-1), .int (nI 0), .int (-1), .int (nI 0), .ref uu.1, .ref uu.2.1, .ref uu.2.2.1, .ref uu.2.2.2])), (uu.1, .inl (g 0, 600, .inl (fun _ => nI 0))), (uu.2.1, .inl (g 0, 3606, .inl (fun _ => nI 0))), (uu.2.2.1, .inl (g 0, 7, .inl (fun _ => nI 0))), (uu.2.2.2, .inl (g 0, 7, .inl (fun _ => nI 0)))]) := by
  refine zk_of (Qc := fun A => va_Qv (fun (uu : Nat × Nat × Nat × Nat) => True) (zk_B D g A (fun (uu : Nat × Nat × Nat × Nat) => [(o0, .inr (6, [.int (nI 0), .int (nI 0), .int (nI 0), .int (nI 0), .ref t0, .int (zk_b false), .int (-1), .int (nI 0), .int (-1), .int (nI 0), .ref uu.1, .ref uu.2.1, .ref uu.2.2.1, .ref uu.2.2.2])), (uu.1, .inl (g 0, 600, .inl (fun _ => nI 0))), (uu.2.1, .inl (g 0, 3606, .inl (fun _ => nI 0))), (uu.2.2.1, .inl (g 0, 7, .inl (fun _ => nI 0))), (uu.2.2.2, .inl (g 0, 7, .inl (fun _ => nI 0)))])) A) (cc := cX6_init) (maxL := 2) (ret := none) (own := RX6) (by decide) rfl rfl (Nat.le_of_ble_eq_true rfl) ?_
  intro pP eE sS mM args below meth cC aA ls qQ Z hR_ hlk hnm hK hT hA hQ G hl
  have hinX6 : ∀ w ∈ u_ws RX6 TX6 14, w ∈ wsX6_init := (fun _ h => List.mem_cons_of_mem _ (List.mem_append_right _ h))
  refine lv_aload_n Z.1 Z.2.1 dX6_init_0 rfl (lv_at hl 0 rfl) ?_
  refine zk_oinit Z hl.1 (List.mem_of_getElem? (i := 1) rfl) (List.mem_of_getElem? (i := 2) rfl) (List.mem_of_getElem? (i := 3) rfl) dX6_init_1 (Nat.le_of_ble_eq_true rfl) (Nat.le_of_ble_eq_true rfl) ?_
  refine lv_aload_n Z.1 Z.2.1 dX6_init_4 rfl (lv_at hl 0 rfl) ?_
  refine lv_iconst (v := (-1)) Z.1 Z.2.1 dX6_init_5 (by decide +kernel) ?_
  refine zk_put tyX6 tyX6_ok nmX6 (C := RX6) (T := TX6) (N := 14) (ci := 6) Z hK G hinX6 0 rfl rfl 6 (by decide) (List.mem_of_getElem? (i := 4) rfl) rfl rfl rfl rfl (Nat.le_of_ble_eq_true rfl) (ws' := [(o0, .inr (6, [.int (nI 0), .int (nI 0), .int (nI 0), .int (nI 0), .null, .int (zk_b false), .int (-1), .int (nI 0), .int (nI 0), .int (nI 0), .null, .null, .null, .null]))]) rfl dX6_init_6 (fun H locs G => ?_)
  refine lv_aload_n Z.1 Z.2.1 dX6_init_9 rfl (lv_at hl 0 rfl) ?_
  refine lv_iconst (v := (-1)) Z.1 Z.2.1 dX6_init_10 (by decide +kernel) ?_
  refine zk_put tyX6 tyX6_ok nmX6 (C := RX6) (T := TX6) (N := 14) (ci := 6) Z hK G hinX6 0 rfl rfl 8 (by decide) (List.mem_of_getElem? (i := 5) rfl) rfl rfl rfl rfl (Nat.le_of_ble_eq_true rfl) (ws' := [(o0, .inr (6, [.int (nI 0), .int (nI 0), .int (nI 0), .int (nI 0), .null, .int (zk_b false), .int (-1), .int (nI 0), .int (-1), .int (nI 0), .null, .null, .null, .null]))]) rfl dX6_init_11 (fun H locs G => ?_)
  refine lv_aload_n Z.1 Z.2.1 dX6_init_14 rfl (lv_at hl 0 rfl) ?_
  refine lv_sipush (v := nI 600) Z.1 Z.2.1 dX6_init_15 (by decide +kernel) ?_
  refine zk_newi Z hA (List.mem_of_getElem? (i := 6) rfl) hK G (N := 600) (by decide) (Nat.le_of_ble_eq_true rfl) (Nat.le_of_ble_eq_true rfl) (Nat.le_of_ble_eq_true rfl) dX6_init_18 (fun q18 H G => ?_)
  refine zk_putF tyX6 tyX6_ok nmX6 (C := RX6) (T := TX6) (N := 14) (ci := 6) Z hnm hK G hinX6 0 rfl rfl 10 (by decide) (List.mem_of_getElem? (i := 7) rfl) rfl rfl rfl rfl (Nat.le_of_ble_eq_true rfl) (ws' := [(o0, .inr (6, [.int (nI 0), .int (nI 0), .int (nI 0), .int (nI 0), .null, .int (zk_b false), .int (-1), .int (nI 0), .int (-1), .int (nI 0), .ref q18, .null, .null, .null])), (q18, .inl (g 0, 600, .inl (fun _ => nI 0)))]) rfl dX6_init_20 (fun H locs G => ?_)
  refine lv_aload_n Z.1 Z.2.1 dX6_init_23 rfl (lv_at hl 0 rfl) ?_
  refine lv_sipush (v := nI 3606) Z.1 Z.2.1 dX6_init_24 (by decide +kernel) ?_
  refine zk_newi Z hA (List.mem_of_getElem? (i := 6) rfl) hK G (N := 3606) (by decide) (Nat.le_of_ble_eq_true rfl) (Nat.le_of_ble_eq_true rfl) (Nat.le_of_ble_eq_true rfl) dX6_init_27 (fun q27 H G => ?_)
  refine zk_putF tyX6 tyX6_ok nmX6 (C := RX6) (T := TX6) (N := 14) (ci := 6) Z hnm hK G hinX6 0 rfl rfl 11 (by decide) (List.mem_of_getElem? (i := 8) rfl) rfl rfl rfl rfl (Nat.le_of_ble_eq_true rfl) (ws' := [(o0, .inr (6, [.int (nI 0), .int (nI 0), .int (nI 0), .int (nI 0), .null, .int (zk_b false), .int (-1), .int (nI 0), .int (-1), .int (nI 0), .ref q18, .ref q27, .null, .null])), (q18, .inl (g 0, 600, .inl (fun _ => nI 0))), (q27, .inl (g 0, 3606, .inl (fun _ => nI 0)))]) rfl dX6_init_29 (fun H locs G => ?_)
  refine lv_aload_n Z.1 Z.2.1 dX6_init_32 rfl (lv_at hl 0 rfl) ?_
  refine lv_bipush (v := nI 7) Z.1 Z.2.1 dX6_init_33 (by decide +kernel) ?_
  refine zk_newi Z hA (List.mem_of_getElem? (i := 6) rfl) hK G (N := 7) (by decide) (Nat.le_of_ble_eq_true rfl) (Nat.le_of_ble_eq_true rfl) (Nat.le_of_ble_eq_true rfl) dX6_init_35 (fun q35 H G => ?_)
  refine zk_put tyX6 tyX6_ok nmX6 (C := RX6) (T := TX6) (N := 14) (ci := 6) Z hK G hinX6 0 rfl rfl 12 (by decide) (List.mem_of_getElem? (i := 9) rfl) rfl rfl rfl rfl (Nat.le_of_ble_eq_true rfl) (ws' := [(o0, .inr (6, [.int (nI 0), .int (nI 0), .int (nI 0), .int (nI 0), .null, .int (zk_b false), .int (-1), .int (nI 0), .int (-1), .int (nI 0), .ref q18, .ref q27, .ref q35, .null])), (q18, .inl (g 0, 600, .inl (fun _ => nI 0))), (q27, .inl (g 0, 3606, .inl (fun _ => nI 0))), (q35, .inl (g 0, 7, .inl (fun _ => nI 0)))]) rfl dX6_init_37 (fun H locs G => ?_)
  refine lv_aload_n Z.1 Z.2.1 dX6_init_40 rfl (lv_at hl 0 rfl) ?_
  refine lv_bipush (v := nI 7) Z.1 Z.2.1 dX6_init_41 (by decide +kernel) ?_
  refine zk_newi Z hA (List.mem_of_getElem? (i := 6) rfl) hK G (N := 7) (by decide) (Nat.le_of_ble_eq_true rfl) (Nat.le_of_ble_eq_true rfl) (Nat.le_of_ble_eq_true rfl) dX6_init_43 (fun q43 H G => ?_)
  refine zk_put tyX6 tyX6_ok nmX6 (C := RX6) (T := TX6) (N := 14) (ci := 6) Z hK G hinX6 0 rfl rfl 13 (by decide) (List.mem_of_getElem? (i := 10) rfl) rfl rfl rfl rfl (Nat.le_of_ble_eq_true rfl) (ws' := [(o0, .inr (6, [.int (nI 0), .int (nI 0), .int (nI 0), .int (nI 0), .null, .int (zk_b false), .int (-1), .int (nI 0), .int (-1), .int (nI 0), .ref q18, .ref q27, .ref q35, .ref q43])), (q18, .inl (g 0, 600, .inl (fun _ => nI 0))), (q27, .inl (g 0, 3606, .inl (fun _ => nI 0))), (q35, .inl (g 0, 7, .inl (fun _ => nI 0))), (q43, .inl (g 0, 7, .inl (fun _ => nI 0)))]) rfl dX6_init_45 (fun H locs G => ?_)
  refine lv_aload_n Z.1 Z.2.1 dX6_init_48 rfl (lv_at hl 0 rfl) ?_
  refine lv_aload_n Z.1 Z.2.1 dX6_init_49 rfl (lv_at hl 1 rfl) ?_
  refine zk_putF tyX6 tyX6_ok nmX6 (C := RX6) (T := TX6) (N := 14) (ci := 6) Z hnm hK G hinX6 0 rfl rfl 4 (by decide) (List.mem_of_getElem? (i := 11) rfl) rfl rfl rfl rfl (Nat.le_of_ble_eq_true rfl) (ws' := [(o0, .inr (6, [.int (nI 0), .int (nI 0), .int (nI 0), .int (nI 0), .ref t0, .int (zk_b false), .int (-1), .int (nI 0), .int (-1), .int (nI 0), .ref q18, .ref q27, .ref q35, .ref q43])), (q18, .inl (g 0, 600, .inl (fun _ => nI 0))), (q27, .inl (g 0, 3606, .inl (fun _ => nI 0))), (q35, .inl (g 0, 7, .inl (fun _ => nI 0))), (q43, .inl (g 0, 7, .inl (fun _ => nI 0)))]) rfl dX6_init_50 (fun H locs G => ?_)
  exact zk_retv Z hR_ hlk hK hQ G (q18, q27, q35, q43) trivial rfl dX6_init_53
