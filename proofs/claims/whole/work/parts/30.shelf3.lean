section ZK3
variable {p : Program} {l : Launch} {e : Env} {R : Room} {s : State} {m : MethodId} {args : Array Value} {below : List Frame} {meth : Method} {c : Code} {H : Heap} {locs : List Loc} {cells slots : Nat} {Q : State → Prop}
variable {cc : ByteArray} {pc nL : Nat} {ls : Array Slot} {rest : List Value} {D : va_G} {g : Nat → ClassId} {τ : Nat → Nat} {A : Nat → Prop} {a : Nat} {ws : va_W} {Ts : List Cond} {own : String}
theorem zk_copyl (Z : CallFix p m c cc nL s args Ts own) {index : Nat} (hsz : ls.size = nL) (h1 : Cond.methodLink own index arraycopyName ∈ Ts) (h2 : Cond.native arraycopyName ∈ Ts) (h3 : Cond.static arraycopyName ∈ Ts) (h4 : Cond.initialized "java/lang/System" ∈ Ts) (hK : va_K D vwCl (zk_TY g) s) (G : zk_G D A ws s H locs) (q0 q1 : Nat) {a0 : Nat} {n0 n1 : Nat} {f gg : Nat → Int64} (ha0 : ws[q0]? = some (a0, .inl (g 1, n0, .inr (.inl f)))) (ha1 : ws[q1]? = some (a, .inl (g 1, n1, .inr (.inl gg))))
    {sp dp n : Nat} (hb1 : sp + n ≤ n0) (hb2 : dp + n ≤ n1) (hb3 : n0 < 2 ^ 31) (hb4 : n1 < 2 ^ 31) (hf : 1 ≤ R.frames) (hlo : (rest.map fun v => v.category).sum + (nativeFrameWords "java/lang/System" "arraycopy" 5 + 11) ≤ R.locals) {f' : Nat → Int64} (hf' : va_cpy f gg sp dp n = f') {ws' : va_W} (hw : ws.set q1 (a, .inl (g 1, n1, .inr (.inl f'))) = ws') (hdg : decode cc pc = .ok (.invokestatic index, 3))
    (kk : ∀ (H1 : Heap) (locs1 : List Loc), zk_G D A ws' s H1 locs1 → W p l e R s m args below meth c H1 locs1 cells slots Q (F0 m (pc + 3) ls rest)) : W p l e R s m args below meth c H locs cells slots Q (F0 m pc ls (.int (nI n) :: .int (nI dp) :: .ref a :: .int (nI sp) :: .ref a0 :: rest)) := by
  have e1 : (nI sp).toNatClampNeg = sp := nI_clamp (by omega)
  have e2 : (nI dp).toNatClampNeg = dp := nI_clamp (by omega)
  have e3 : (nI n).toNatClampNeg = n := nI_clamp (by omega)
  subst hf' hw
  refine va_copyl Z.1 Z.2.1 (Z.2.2.1.trans hsz.symm) Z.2.2.2.1 (Z.2.2.2.2 _ h1) (Z.2.2.2.2 _ h2) (Z.2.2.2.2 _ h3) (Z.2.2.2.2 _ h4) hK G.1 G.2.1 G.2.2 q0 q1 1 1 (ty := .long) ha0 ha1 rfl rfl rfl (nI_pos (by omega)) (nI_pos (by omega)) (nI_pos (by omega)) (by rw [e1, e3]; exact hb1) (by rw [e2, e3]; exact hb2) (fun _ _ => rfl) hf hlo hdg (fun H1 locs1 k1 k2 k3 => ?_)
  rw [e1, e2, e3] at k1 k2
  exact kk H1 locs1 ⟨k1, k2, k3⟩
end ZK3

def zh_shc (x x2 so re so2 re2 : Int32) (len len2 : Nat) (i j nn : Int32) : Int32 := if (zb_w 6 x && zb_w 6 x2) = true then (if zh_non so re = true then -11 else if zh_non so2 re2 = true then -11 else if (decide (¬ so < 0) && (decide (¬ so2 < 0) && decide (so2 = so))) = true then (if (zh_pl len i nn && zh_pl len2 j nn) = true then nn else -13) else -12) else -1
theorem zh_shc_ok {x x2 so re so2 re2 : Int32} {len len2 : Nat} {i j nn : Int32} (h : (zb_w 6 x && zb_w 6 x2) = true) (h1 : zh_non so re = false) (h2 : zh_non so2 re2 = false) (h3 : (decide (¬ so < 0) && (decide (¬ so2 < 0) && decide (so2 = so))) = true) (h4 : (zh_pl len i nn && zh_pl len2 j nn) = true) : zh_shc x x2 so re so2 re2 len len2 i j nn = nn := by
  unfold zh_shc; rw [if_pos h, h1, h2, if_neg (by decide), if_neg (by decide), if_pos h3, if_pos h4]
theorem zh_shc_n1 {x x2 so re so2 re2 : Int32} {len len2 : Nat} {i j nn : Int32} (h : (zb_w 6 x && zb_w 6 x2) = true) (h1 : zh_non so re = true) : zh_shc x x2 so re so2 re2 len len2 i j nn = -11 := by
  unfold zh_shc; rw [if_pos h, if_pos h1]
theorem zh_shc_n2 {x x2 so re so2 re2 : Int32} {len len2 : Nat} {i j nn : Int32} (h : (zb_w 6 x && zb_w 6 x2) = true) (h1 : zh_non so re = false) (h2 : zh_non so2 re2 = true) : zh_shc x x2 so re so2 re2 len len2 i j nn = -11 := by
  unfold zh_shc; rw [if_pos h, if_neg (by rw [h1]; decide), if_pos h2]
theorem zh_shc_n3 {x x2 so re so2 re2 : Int32} {len len2 : Nat} {i j nn : Int32} (h : (zb_w 6 x && zb_w 6 x2) = true) (h1 : zh_non so re = false) (h2 : zh_non so2 re2 = false) (h3 : (decide (¬ so < 0) && (decide (¬ so2 < 0) && decide (so2 = so))) = false) : zh_shc x x2 so re so2 re2 len len2 i j nn = -12 := by
  unfold zh_shc; rw [if_pos h, if_neg (by rw [h1]; decide), if_neg (by rw [h2]; decide), if_neg (by rw [h3]; decide)]
theorem zh_shc_n4 {x x2 so re so2 re2 : Int32} {len len2 : Nat} {i j nn : Int32} (h : (zb_w 6 x && zb_w 6 x2) = true) (h1 : zh_non so re = false) (h2 : zh_non so2 re2 = false) (h3 : (decide (¬ so < 0) && (decide (¬ so2 < 0) && decide (so2 = so))) = true) (h4 : (zh_pl len i nn && zh_pl len2 j nn) = false) : zh_shc x x2 so re so2 re2 len len2 i j nn = -13 := by
  unfold zh_shc; rw [if_pos h, if_neg (by rw [h1]; decide), if_neg (by rw [h2]; decide), if_pos h3, if_neg (by rw [h4]; decide)]

def zh_okc (x x2 so re so2 re2 : Int32) (len len2 : Nat) (i j nn : Int32) : Bool := (zb_w 6 x && zb_w 6 x2) && (!zh_non so re && (!zh_non so2 re2 && ((decide (¬ so < 0) && (decide (¬ so2 < 0) && decide (so2 = so))) && (zh_pl len i nn && zh_pl len2 j nn))))
section
variable {x x2 so re so2 re2 : Int32} {len len2 : Nat} {i j nn : Int32}
theorem zh_okc_y (h : (zb_w 6 x && zb_w 6 x2) = true) (h1 : zh_non so re = false) (h2 : zh_non so2 re2 = false) (h3 : (decide (¬ so < 0) && (decide (¬ so2 < 0) && decide (so2 = so))) = true) (h4 : (zh_pl len i nn && zh_pl len2 j nn) = true) : zh_okc x x2 so re so2 re2 len len2 i j nn = true := by
  unfold zh_okc; rw [h, h1, h2, h3, h4]; rfl
theorem zh_okc_1 (h1 : zh_non so re = true) : ¬ zh_okc x x2 so re so2 re2 len len2 i j nn = true := by
  unfold zh_okc; rw [h1]; simp
theorem zh_okc_2 (h1 : zh_non so2 re2 = true) : ¬ zh_okc x x2 so re so2 re2 len len2 i j nn = true := by
  unfold zh_okc; rw [h1]; simp
theorem zh_okc_3 (h3 : (decide (¬ so < 0) && (decide (¬ so2 < 0) && decide (so2 = so))) = false) : ¬ zh_okc x x2 so re so2 re2 len len2 i j nn = true := by
  unfold zh_okc; rw [h3]; simp
theorem zh_okc_4 (h4 : (zh_pl len i nn && zh_pl len2 j nn) = false) : ¬ zh_okc x x2 so re so2 re2 len len2 i j nn = true := by
  unfold zh_okc; rw [h4]; simp
end

abbrev rm_X7_shift : Room := { frames := 1, cells := 0, slots := 0, locals := 60 }
theorem dvX7_shift : zk_dv yX7_shift RX7 5 := by decide +kernel
set_option maxRecDepth 100000 in
set_option maxHeartbeats 4000000 in
theorem ct_X7_shift1 (l : Launch) (D : va_G) (g : Nat → ClassId) (τ : Nat → Nat) (a : Nat → Nat) (pic : Bool) (storm : Nat) (chance : Int32) (sf : Nat → Option Nat) (so : Nat) (si : Nat) (sort : Int32) (len : Nat) (rel : Int32) (It : Nat → Int64) (x : Int32) (i9 : Int32) (x2 : Int32) (j9 : Int32) (nn : Int32) (hlen : len ≤ 60) (hlen2 : len ≤ 60) (hsf : zb_w 6 x = true → sf (x.toInt.toNat) = some so) (hsf2 : zb_w 6 x2 = true → sf (x2.toInt.toNat) = some so) : zk_MI l D g τ yX7_shift wsX7_shift rm_X7_shift [.ref (a 0), .int x, .int i9, .int x2, .int j9, .int nn] [(a 0, .inr (7, [.ref (a 1), .ref (a 2), .ref (a 3), .ref (a 4), .ref (a 50), .ref (a 60), .ref (a 7), .ref (a 8), .int (zk_b pic), .int (nI storm), .int chance])), (a 8, .inl (g 4, 6, .inr (.inr (.inr (.inr sf))))), (so, .inr (4, [.ref si, .int sort, .int (nI len), .int rel])), (si, .inl (g 1, 60, .inr (.inl It)))] (fun (r : Int32) (_ : Unit) => r = zh_shc x x2 sort rel sort rel len len i9 j9 nn) (fun (_ : Unit) => [(a 0, .inr (7, [.ref (a 1), .ref (a 2), .ref (a 3), .ref (a 4), .ref (a 50), .ref (a 60), .ref (a 7), .ref (a 8), .int (zk_b pic), .int (nI storm), .int chance])), (a 8, .inl (g 4, 6, .inr (.inr (.inr (.inr sf))))), (so, .inr (4, [.ref si, .int sort, .int (nI len), .int rel])), (si, .inl (g 1, 60, .inr (.inl (if zh_okc x x2 sort rel sort rel len len i9 j9 nn = true then va_cpy It It i9.toInt.toNat j9.toInt.toNat nn.toInt.toNat else It))))]) := by
  refine zk_of (Qc := fun A => va_Qi (fun (r : Int32) (_ : Unit) => r = zh_shc x x2 sort rel sort rel len len i9 j9 nn) (zk_B D g A (fun (_ : Unit) => [(a 0, .inr (7, [.ref (a 1), .ref (a 2), .ref (a 3), .ref (a 4), .ref (a 50), .ref (a 60), .ref (a 7), .ref (a 8), .int (zk_b pic), .int (nI storm), .int chance])), (a 8, .inl (g 4, 6, .inr (.inr (.inr (.inr sf))))), (so, .inr (4, [.ref si, .int sort, .int (nI len), .int rel])), (si, .inl (g 1, 60, .inr (.inl (if zh_okc x x2 sort rel sort rel len len i9 j9 nn = true then va_cpy It It i9.toInt.toNat j9.toInt.toNat nn.toInt.toNat else It))))])) A) (cc := cX7_shift) (maxL := 8) (ret := (some .int)) (own := RX7) (by decide) rfl rfl (Nat.le_of_ble_eq_true rfl) ?_
  intro pP eE sS mM args below meth cC aA ls qQ Z hR_ hlk hnm hK hT hA hQ G hl
  have hinX4 : ∀ w ∈ u_ws RX4 TX4 4, w ∈ wsX7_shift := (fun _ h => List.mem_cons_of_mem _ (List.mem_append_right _ h))
  have hinX7 : ∀ w ∈ u_ws RX7 TX7 11, w ∈ wsX7_shift := (fun _ h => List.mem_cons_of_mem _ (List.mem_append_left _ (List.mem_append_right _ h)))
  refine lv_iload_n Z.1 Z.2.1 dX7_shift_0 rfl (lv_at hl 1 rfl) ?_
  refine zk_ci (WF := fun (_ : Unit) => [(a 0, .inr (7, [.ref (a 1), .ref (a 2), .ref (a 3), .ref (a 4), .ref (a 50), .ref (a 60), .ref (a 7), .ref (a 8), .int (zk_b pic), .int (nI storm), .int chance])), (a 8, .inl (g 4, 6, .inr (.inr (.inr (.inr sf))))), (so, .inr (4, [.ref si, .int sort, .int (nI len), .int rel])), (si, .inl (g 1, 60, .inr (.inl It)))]) (wr := [(a 0, .inr (7, [.ref (a 1), .ref (a 2), .ref (a 3), .ref (a 4), .ref (a 50), .ref (a 60), .ref (a 7), .ref (a 8), .int (zk_b pic), .int (nI storm), .int chance])), (a 8, .inl (g 4, 6, .inr (.inr (.inr (.inr sf))))), (so, .inr (4, [.ref si, .int sort, .int (nI len), .int rel])), (si, .inl (g 1, 60, .inr (.inl It)))]) ⟨rfl, rfl⟩ (zk_rs (As := [.int x]) (rest := []) Z ((ct_X7_isShelf l D g τ x ) sS.heap.size) hK hT hA G [] rfl (by decide) gX7_shift_X7_isShelf rfl dvX7_isShelf ⟨by decide, by decide⟩ rfl hl.1 rfl (Nat.le_of_ble_eq_true rfl) dX7_shift_1 ⟨Nat.zero_le _, Nat.zero_le _⟩) hA G [] [0, 1, 2, 3] [0, 1, 2, 3] rfl rfl (by decide) (by decide) (by decide) (fun _ => rfl) (fun r_1 _ H locs w_1 G => ?_)
  obtain rfl : r_1 = zk_b (zb_w 6 x) := w_1
  refine lv_if_eq (tgt := 14) Z.1 Z.2.1 dX7_shift_4 (by decide) (fun c4 => ?_) (fun c4 => ?_)
  · have c4 : (zb_w 6 x) = false := zk_b0.mp c4
    refine lv_iconst (v := (-1)) Z.1 Z.2.1 dX7_shift_14 (by decide +kernel) ?_
    have hk9 : ¬ zh_okc x x2 sort rel sort rel len len i9 j9 nn = true := by unfold zh_okc; rw [c4]; simp
    exact zk_reti Z hR_ hlk hK hQ G () (by unfold zh_shc; rw [c4, Bool.false_and]; rfl) (by rw [if_neg hk9]) dX7_shift_15
  have c4 : (zb_w 6 x) = true := zk_b1.mp c4
  have c4_0 := c4
  obtain ⟨d, hd, rfl, hd2⟩ := zb_w_ex c4
  have hsd : sf d = some so := by have h9 := hsf c4_0; rw [zb_nat hd] at h9; exact h9
  refine lv_iload_n Z.1 Z.2.1 dX7_shift_7 rfl (lv_at hl 3 rfl) ?_
  refine zk_ci (WF := fun (_ : Unit) => [(a 0, .inr (7, [.ref (a 1), .ref (a 2), .ref (a 3), .ref (a 4), .ref (a 50), .ref (a 60), .ref (a 7), .ref (a 8), .int (zk_b pic), .int (nI storm), .int chance])), (a 8, .inl (g 4, 6, .inr (.inr (.inr (.inr sf))))), (so, .inr (4, [.ref si, .int sort, .int (nI len), .int rel])), (si, .inl (g 1, 60, .inr (.inl It)))]) (wr := [(a 0, .inr (7, [.ref (a 1), .ref (a 2), .ref (a 3), .ref (a 4), .ref (a 50), .ref (a 60), .ref (a 7), .ref (a 8), .int (zk_b pic), .int (nI storm), .int chance])), (a 8, .inl (g 4, 6, .inr (.inr (.inr (.inr sf))))), (so, .inr (4, [.ref si, .int sort, .int (nI len), .int rel])), (si, .inl (g 1, 60, .inr (.inl It)))]) ⟨rfl, rfl⟩ (zk_rs (As := [.int x2]) (rest := []) Z ((ct_X7_isShelf l D g τ x2 ) H.size) hK hT hA G [] rfl (by decide) gX7_shift_X7_isShelf rfl dvX7_isShelf ⟨by decide, by decide⟩ rfl hl.1 rfl (Nat.le_of_ble_eq_true rfl) dX7_shift_8 ⟨Nat.zero_le _, Nat.zero_le _⟩) hA G [] [0, 1, 2, 3] [0, 1, 2, 3] rfl rfl (by decide) (by decide) (by decide) (fun _ => rfl) (fun r_8 _ H locs w_8 G => ?_)
  obtain rfl : r_8 = zk_b (zb_w 6 x2) := w_8
  refine lv_if_ne (tgt := 16) Z.1 Z.2.1 dX7_shift_11 (by decide) (fun c11 => ?_) (fun c11 => ?_)
  · have c11 : (zb_w 6 x2) = true := zk_b1.mp c11
    have c11_0 := c11
    obtain ⟨d2, hd2_, rfl, hd22⟩ := zb_w_ex c11
    have hsd2 : sf d2 = some so := by have h9 := hsf2 c11_0; rw [zb_nat hd2_] at h9; exact h9
    have hA1 : (zb_w 6 (nI d) && zb_w 6 (nI d2)) = true := by rw [c4_0, c11_0]; rfl
    refine lv_aload_n Z.1 Z.2.1 dX7_shift_16 rfl (lv_at hl 0 rfl) ?_
    refine zk_get (C := RX7) (T := TX7) (N := 11) (ci := 7) Z hK G hinX7 0 rfl rfl 7 (by decide) (List.mem_of_getElem? (i := 1) rfl) rfl (v := .ref (a 8)) rfl dX7_shift_17 ?_
    refine lv_iload_n Z.1 Z.2.1 dX7_shift_20 rfl (lv_at hl 1 rfl) ?_
    refine zk_qald Z hK G 1 rfl (k := d) (by omega) (by decide) (v := so) hsd dX7_shift_21 ?_
    refine lv_astore (lv' := [(6, .ref so), (0, .ref (a 0)), (1, .int (nI d)), (2, .int i9), (3, .int (nI d2)), (4, .int j9), (5, .int nn)]) Z.1 Z.2.1 dX7_shift_22 hl (by decide) rfl (fun ls hl => ?_)
    refine lv_aload_n Z.1 Z.2.1 dX7_shift_24 rfl (lv_at hl 1 rfl) ?_
    refine zk_get (C := RX7) (T := TX7) (N := 11) (ci := 7) Z hK G hinX7 0 rfl rfl 7 (by decide) (List.mem_of_getElem? (i := 1) rfl) rfl (v := .ref (a 8)) rfl dX7_shift_25 ?_
    refine lv_iload_n Z.1 Z.2.1 dX7_shift_28 rfl (lv_at hl 4 rfl) ?_
    refine zk_qald Z hK G 1 rfl (k := d2) (by omega) (by decide) (v := so) hsd2 dX7_shift_29 ?_
    refine lv_astore (lv' := [(7, .ref so), (6, .ref so), (0, .ref (a 0)), (1, .int (nI d)), (2, .int i9), (3, .int (nI d2)), (4, .int j9), (5, .int nn)]) Z.1 Z.2.1 dX7_shift_30 hl (by decide) rfl (fun ls hl => ?_)
    refine lv_aload Z.1 Z.2.1 dX7_shift_32 (lv_at hl 1 rfl) ?_
    refine zk_ci (WF := fun (_ : Unit) => [(a 0, .inr (7, [.ref (a 1), .ref (a 2), .ref (a 3), .ref (a 4), .ref (a 50), .ref (a 60), .ref (a 7), .ref (a 8), .int (zk_b pic), .int (nI storm), .int chance])), (a 8, .inl (g 4, 6, .inr (.inr (.inr (.inr sf))))), (so, .inr (4, [.ref si, .int sort, .int (nI len), .int rel])), (si, .inl (g 1, 60, .inr (.inl It)))]) (wr := [(a 0, .inr (7, [.ref (a 1), .ref (a 2), .ref (a 3), .ref (a 4), .ref (a 50), .ref (a 60), .ref (a 7), .ref (a 8), .int (zk_b pic), .int (nI storm), .int chance])), (a 8, .inl (g 4, 6, .inr (.inr (.inr (.inr sf))))), (si, .inl (g 1, 60, .inr (.inl It)))]) ⟨rfl, rfl⟩ (zk_rv (As := []) (rest := []) (q0 := 2) (ci := 4) Z ((ct_X4_holdsNothing l D g τ so si sort len rel ) H.size) hK hT hA G [2] rfl (by decide) rfl rfl gX7_shift_X4_holdsNothing rfl dvX4_holdsNothing ⟨by decide, by decide⟩ rfl hl.1 rfl (Nat.le_of_ble_eq_true rfl) dX7_shift_34 ⟨Nat.zero_le _, Nat.zero_le _⟩) hA G [2] [0, 1, 3] [0, 1, 3, 2] rfl rfl (by decide) (by decide) (by decide) (fun _ => rfl) (fun r_34 _ H locs w_34 G => ?_)
    obtain rfl : r_34 = zk_b (zh_non sort rel) := w_34
    refine lv_if_ne (tgt := 48) Z.1 Z.2.1 dX7_shift_37 (by decide) (fun c37 => ?_) (fun c37 => ?_)
    · have c37 : (zh_non sort rel) = true := zk_b1.mp c37
      refine lv_bipush (v := (-11)) Z.1 Z.2.1 dX7_shift_48 (by decide +kernel) ?_
      have hk9 : ¬ zh_okc (nI d) (nI d2) sort rel sort rel len len i9 j9 nn = true := zh_okc_1 c37
      exact zk_reti Z hR_ hlk hK hQ G () (zh_shc_n1 hA1 c37).symm (by rw [if_neg hk9]) dX7_shift_50
    have c37 : (zh_non sort rel) = false := zk_b0.mp c37
    refine lv_aload Z.1 Z.2.1 dX7_shift_40 (lv_at hl 0 rfl) ?_
    refine zk_ci (WF := fun (_ : Unit) => [(a 0, .inr (7, [.ref (a 1), .ref (a 2), .ref (a 3), .ref (a 4), .ref (a 50), .ref (a 60), .ref (a 7), .ref (a 8), .int (zk_b pic), .int (nI storm), .int chance])), (a 8, .inl (g 4, 6, .inr (.inr (.inr (.inr sf))))), (so, .inr (4, [.ref si, .int sort, .int (nI len), .int rel])), (si, .inl (g 1, 60, .inr (.inl It)))]) (wr := [(a 0, .inr (7, [.ref (a 1), .ref (a 2), .ref (a 3), .ref (a 4), .ref (a 50), .ref (a 60), .ref (a 7), .ref (a 8), .int (zk_b pic), .int (nI storm), .int chance])), (a 8, .inl (g 4, 6, .inr (.inr (.inr (.inr sf))))), (si, .inl (g 1, 60, .inr (.inl It)))]) ⟨rfl, rfl⟩ (zk_rv (As := []) (rest := []) (q0 := 2) (ci := 4) Z ((ct_X4_holdsNothing l D g τ so si sort len rel ) H.size) hK hT hA G [2] rfl (by decide) rfl rfl gX7_shift_X4_holdsNothing rfl dvX4_holdsNothing ⟨by decide, by decide⟩ rfl hl.1 rfl (Nat.le_of_ble_eq_true rfl) dX7_shift_42 ⟨Nat.zero_le _, Nat.zero_le _⟩) hA G [2] [0, 1, 3] [0, 1, 3, 2] rfl rfl (by decide) (by decide) (by decide) (fun _ => rfl) (fun r_42 _ H locs w_42 G => ?_)
    obtain rfl : r_42 = zk_b (zh_non sort rel) := w_42
    refine lv_if_eq (tgt := 51) Z.1 Z.2.1 dX7_shift_45 (by decide) (fun c45 => ?_) (fun c45 => ?_)
    · have c45 : (zh_non sort rel) = false := zk_b0.mp c45
      refine lv_aload Z.1 Z.2.1 dX7_shift_51 (lv_at hl 1 rfl) ?_
      refine zk_ci (WF := fun (_ : Unit) => [(a 0, .inr (7, [.ref (a 1), .ref (a 2), .ref (a 3), .ref (a 4), .ref (a 50), .ref (a 60), .ref (a 7), .ref (a 8), .int (zk_b pic), .int (nI storm), .int chance])), (a 8, .inl (g 4, 6, .inr (.inr (.inr (.inr sf))))), (so, .inr (4, [.ref si, .int sort, .int (nI len), .int rel])), (si, .inl (g 1, 60, .inr (.inl It)))]) (wr := [(a 0, .inr (7, [.ref (a 1), .ref (a 2), .ref (a 3), .ref (a 4), .ref (a 50), .ref (a 60), .ref (a 7), .ref (a 8), .int (zk_b pic), .int (nI storm), .int chance])), (a 8, .inl (g 4, 6, .inr (.inr (.inr (.inr sf))))), (si, .inl (g 1, 60, .inr (.inl It)))]) ⟨rfl, rfl⟩ (zk_rv (As := []) (rest := []) (q0 := 2) (ci := 4) Z ((ct_X4_holdsRow l D g τ so si sort len rel ) H.size) hK hT hA G [2] rfl (by decide) rfl rfl gX7_shift_X4_holdsRow rfl dvX4_holdsRow ⟨by decide, by decide⟩ rfl hl.1 rfl (Nat.le_of_ble_eq_true rfl) dX7_shift_53 ⟨Nat.zero_le _, Nat.zero_le _⟩) hA G [2] [0, 1, 3] [0, 1, 3, 2] rfl rfl (by decide) (by decide) (by decide) (fun _ => rfl) (fun r_53 _ H locs w_53 G => ?_)
      obtain rfl : r_53 = zk_b (decide (¬ sort < 0)) := w_53
      refine lv_if_eq (tgt := 72) Z.1 Z.2.1 dX7_shift_56 (by decide) (fun c56 => ?_) (fun c56 => ?_)
      · have c56 : (decide (¬ sort < 0)) = false := zk_b0.mp c56
        refine lv_bipush (v := (-12)) Z.1 Z.2.1 dX7_shift_72 (by decide +kernel) ?_
        have hk8 : (decide (¬ sort < 0) && (decide (¬ sort < 0) && decide (sort = sort))) = false := by rw [c56]; simp
        have hk9 : ¬ zh_okc (nI d) (nI d2) sort rel sort rel len len i9 j9 nn = true := zh_okc_3 hk8
        exact zk_reti Z hR_ hlk hK hQ G () (zh_shc_n3 hA1 c37 c45 hk8).symm (by rw [if_neg hk9]) dX7_shift_74
      have c56 : (decide (¬ sort < 0)) = true := zk_b1.mp c56
      refine lv_aload Z.1 Z.2.1 dX7_shift_59 (lv_at hl 0 rfl) ?_
      refine lv_aload Z.1 Z.2.1 dX7_shift_61 (lv_at hl 1 rfl) ?_
      refine zk_get (C := RX4) (T := TX4) (N := 4) (ci := 4) Z hK G hinX4 2 rfl rfl 1 (by decide) (List.mem_of_getElem? (i := 2) rfl) rfl (v := .int sort) rfl dX7_shift_63 ?_
      refine zk_ci (WF := fun (_ : Unit) => [(a 0, .inr (7, [.ref (a 1), .ref (a 2), .ref (a 3), .ref (a 4), .ref (a 50), .ref (a 60), .ref (a 7), .ref (a 8), .int (zk_b pic), .int (nI storm), .int chance])), (a 8, .inl (g 4, 6, .inr (.inr (.inr (.inr sf))))), (so, .inr (4, [.ref si, .int sort, .int (nI len), .int rel])), (si, .inl (g 1, 60, .inr (.inl It)))]) (wr := [(a 0, .inr (7, [.ref (a 1), .ref (a 2), .ref (a 3), .ref (a 4), .ref (a 50), .ref (a 60), .ref (a 7), .ref (a 8), .int (zk_b pic), .int (nI storm), .int chance])), (a 8, .inl (g 4, 6, .inr (.inr (.inr (.inr sf))))), (si, .inl (g 1, 60, .inr (.inl It)))]) ⟨rfl, rfl⟩ (zk_rv (As := [.int sort]) (rest := []) (q0 := 2) (ci := 4) Z ((ct_X4_holdsRowOf l D g τ so si sort len rel sort ) H.size) hK hT hA G [2] rfl (by decide) rfl rfl gX7_shift_X4_holdsRowOf rfl dvX4_holdsRowOf ⟨by decide, by decide⟩ rfl hl.1 rfl (Nat.le_of_ble_eq_true rfl) dX7_shift_66 ⟨Nat.zero_le _, Nat.zero_le _⟩) hA G [2] [0, 1, 3] [0, 1, 3, 2] rfl rfl (by decide) (by decide) (by decide) (fun _ => rfl) (fun r_66 _ H locs w_66 G => ?_)
      obtain rfl : r_66 = zk_b (decide (¬ sort < 0) && decide (sort = sort)) := w_66
      refine lv_if_ne (tgt := 75) Z.1 Z.2.1 dX7_shift_69 (by decide) (fun c69 => ?_) (fun c69 => ?_)
      · have c69 : (decide (¬ sort < 0) && decide (sort = sort)) = true := zk_b1.mp c69
        have hA4 : (decide (¬ sort < 0) && (decide (¬ sort < 0) && decide (sort = sort))) = true := by rw [c69, c56]; rfl
        refine lv_aload Z.1 Z.2.1 dX7_shift_75 (lv_at hl 1 rfl) ?_
        refine lv_iload_n Z.1 Z.2.1 dX7_shift_77 rfl (lv_at hl 4 rfl) ?_
        refine lv_iload Z.1 Z.2.1 dX7_shift_78 (lv_at hl 7 rfl) ?_
        refine zk_ci (WF := fun (_ : Unit) => [(a 0, .inr (7, [.ref (a 1), .ref (a 2), .ref (a 3), .ref (a 4), .ref (a 50), .ref (a 60), .ref (a 7), .ref (a 8), .int (zk_b pic), .int (nI storm), .int chance])), (a 8, .inl (g 4, 6, .inr (.inr (.inr (.inr sf))))), (so, .inr (4, [.ref si, .int sort, .int (nI len), .int rel])), (si, .inl (g 1, 60, .inr (.inl It)))]) (wr := [(a 0, .inr (7, [.ref (a 1), .ref (a 2), .ref (a 3), .ref (a 4), .ref (a 50), .ref (a 60), .ref (a 7), .ref (a 8), .int (zk_b pic), .int (nI storm), .int chance])), (a 8, .inl (g 4, 6, .inr (.inr (.inr (.inr sf))))), (si, .inl (g 1, 60, .inr (.inl It)))]) ⟨rfl, rfl⟩ (zk_rv (As := [.int i9, .int nn]) (rest := []) (q0 := 2) (ci := 4) Z ((ct_X4_hasPlaces l D g τ so si sort len rel i9 nn ) H.size) hK hT hA G [2] rfl (by decide) rfl rfl gX7_shift_X4_hasPlaces rfl dvX4_hasPlaces ⟨by decide, by decide⟩ rfl hl.1 rfl (Nat.le_of_ble_eq_true rfl) dX7_shift_80 ⟨Nat.zero_le _, Nat.zero_le _⟩) hA G [2] [0, 1, 3] [0, 1, 3, 2] rfl rfl (by decide) (by decide) (by decide) (fun _ => rfl) (fun r_80 _ H locs w_80 G => ?_)
        obtain rfl : r_80 = zk_b (zh_pl len i9 nn) := w_80
        refine lv_if_eq (tgt := 98) Z.1 Z.2.1 dX7_shift_83 (by decide) (fun c83 => ?_) (fun c83 => ?_)
        · have c83 : (zh_pl len i9 nn) = false := zk_b0.mp c83
          refine lv_bipush (v := (-13)) Z.1 Z.2.1 dX7_shift_98 (by decide +kernel) ?_
          have hk8 : (zh_pl len i9 nn && zh_pl len j9 nn) = false := by rw [c83]; simp
          have hk9 : ¬ zh_okc (nI d) (nI d2) sort rel sort rel len len i9 j9 nn = true := zh_okc_4 hk8
          exact zk_reti Z hR_ hlk hK hQ G () (zh_shc_n4 hA1 c37 c45 hA4 hk8).symm (by rw [if_neg hk9]) dX7_shift_100
        have c83 : (zh_pl len i9 nn) = true := zk_b1.mp c83
        refine lv_aload Z.1 Z.2.1 dX7_shift_86 (lv_at hl 0 rfl) ?_
        refine lv_iload Z.1 Z.2.1 dX7_shift_88 (lv_at hl 6 rfl) ?_
        refine lv_iload Z.1 Z.2.1 dX7_shift_90 (lv_at hl 7 rfl) ?_
        refine zk_ci (WF := fun (_ : Unit) => [(a 0, .inr (7, [.ref (a 1), .ref (a 2), .ref (a 3), .ref (a 4), .ref (a 50), .ref (a 60), .ref (a 7), .ref (a 8), .int (zk_b pic), .int (nI storm), .int chance])), (a 8, .inl (g 4, 6, .inr (.inr (.inr (.inr sf))))), (so, .inr (4, [.ref si, .int sort, .int (nI len), .int rel])), (si, .inl (g 1, 60, .inr (.inl It)))]) (wr := [(a 0, .inr (7, [.ref (a 1), .ref (a 2), .ref (a 3), .ref (a 4), .ref (a 50), .ref (a 60), .ref (a 7), .ref (a 8), .int (zk_b pic), .int (nI storm), .int chance])), (a 8, .inl (g 4, 6, .inr (.inr (.inr (.inr sf))))), (si, .inl (g 1, 60, .inr (.inl It)))]) ⟨rfl, rfl⟩ (zk_rv (As := [.int j9, .int nn]) (rest := []) (q0 := 2) (ci := 4) Z ((ct_X4_hasPlaces l D g τ so si sort len rel j9 nn ) H.size) hK hT hA G [2] rfl (by decide) rfl rfl gX7_shift_X4_hasPlaces rfl dvX4_hasPlaces ⟨by decide, by decide⟩ rfl hl.1 rfl (Nat.le_of_ble_eq_true rfl) dX7_shift_92 ⟨Nat.zero_le _, Nat.zero_le _⟩) hA G [2] [0, 1, 3] [0, 1, 3, 2] rfl rfl (by decide) (by decide) (by decide) (fun _ => rfl) (fun r_92 _ H locs w_92 G => ?_)
        obtain rfl : r_92 = zk_b (zh_pl len j9 nn) := w_92
        refine lv_if_ne (tgt := 101) Z.1 Z.2.1 dX7_shift_95 (by decide) (fun c95 => ?_) (fun c95 => ?_)
        · have c95 : (zh_pl len j9 nn) = true := zk_b1.mp c95
          have hA2 := c37
          have hA3 := c45
          have hA5 : (zh_pl len i9 nn && zh_pl len j9 nn) = true := by rw [c83, c95]; rfl
          obtain ⟨i, u, rfl, rfl, hiu⟩ := zh_pl_ex hlen c83
          obtain ⟨j, u2, rfl, eu, hju⟩ := zh_pl_ex hlen2 c95
          have hu31 : u < 2 ^ 31 := by omega
          have hu2 : u2 = u := (nI_eq (by omega) (by omega)).mp eu.symm
          subst hu2
          refine lv_aload Z.1 Z.2.1 dX7_shift_101 (lv_at hl 1 rfl) ?_
          refine zk_get (C := RX4) (T := TX4) (N := 4) (ci := 4) Z hK G hinX4 2 rfl rfl 0 (by decide) (List.mem_of_getElem? (i := 3) rfl) rfl (v := .ref si) rfl dX7_shift_103 ?_
          refine lv_iload_n Z.1 Z.2.1 dX7_shift_106 rfl (lv_at hl 4 rfl) ?_
          refine lv_aload Z.1 Z.2.1 dX7_shift_107 (lv_at hl 0 rfl) ?_
          refine zk_get (C := RX4) (T := TX4) (N := 4) (ci := 4) Z hK G hinX4 2 rfl rfl 0 (by decide) (List.mem_of_getElem? (i := 3) rfl) rfl (v := .ref si) rfl dX7_shift_109 ?_
          refine lv_iload Z.1 Z.2.1 dX7_shift_112 (lv_at hl 6 rfl) ?_
          refine lv_iload Z.1 Z.2.1 dX7_shift_114 (lv_at hl 7 rfl) ?_
          refine zk_copyl Z hl.1 (List.mem_of_getElem? (i := 4) rfl) (List.mem_of_getElem? (i := 5) rfl) (List.mem_of_getElem? (i := 6) rfl) (List.mem_of_getElem? (i := 7) rfl) hK G 3 3 rfl rfl (sp := i) (dp := j) (n := u2) (by omega) (by omega) (by decide) (by decide) (by decide) (by decide) rfl (ws' := [(a 0, .inr (7, [.ref (a 1), .ref (a 2), .ref (a 3), .ref (a 4), .ref (a 50), .ref (a 60), .ref (a 7), .ref (a 8), .int (zk_b pic), .int (nI storm), .int chance])), (a 8, .inl (g 4, 6, .inr (.inr (.inr (.inr sf))))), (so, .inr (4, [.ref si, .int sort, .int (nI len), .int rel])), (si, .inl (g 1, 60, .inr (.inl (va_cpy It It i j u2))))]) rfl dX7_shift_116 (fun H locs G => ?_)
          refine lv_iload Z.1 Z.2.1 dX7_shift_119 (lv_at hl 7 rfl) ?_
          have hk9 : zh_okc (nI d) (nI d2) sort rel sort rel len len (nI i) (nI j) (nI u2) = true := by exact zh_okc_y hA1 hA2 hA3 hA4 hA5
          exact zk_reti Z hR_ hlk hK hQ G () (zh_shc_ok hA1 hA2 hA3 hA4 hA5).symm (by rw [if_pos hk9, zb_nat (by omega), zb_nat (by omega), zb_nat (by omega)]) dX7_shift_121
        have c95 : (zh_pl len j9 nn) = false := zk_b0.mp c95
        refine lv_bipush (v := (-13)) Z.1 Z.2.1 dX7_shift_98 (by decide +kernel) ?_
        have hk8 : (zh_pl len i9 nn && zh_pl len j9 nn) = false := by rw [c95]; simp
        have hk9 : ¬ zh_okc (nI d) (nI d2) sort rel sort rel len len i9 j9 nn = true := zh_okc_4 hk8
        exact zk_reti Z hR_ hlk hK hQ G () (zh_shc_n4 hA1 c37 c45 hA4 hk8).symm (by rw [if_neg hk9]) dX7_shift_100
      have c69 : (decide (¬ sort < 0) && decide (sort = sort)) = false := zk_b0.mp c69
      refine lv_bipush (v := (-12)) Z.1 Z.2.1 dX7_shift_72 (by decide +kernel) ?_
      have hk8 : (decide (¬ sort < 0) && (decide (¬ sort < 0) && decide (sort = sort))) = false := by rw [c69]; simp
      have hk9 : ¬ zh_okc (nI d) (nI d2) sort rel sort rel len len i9 j9 nn = true := zh_okc_3 hk8
      exact zk_reti Z hR_ hlk hK hQ G () (zh_shc_n3 hA1 c37 c45 hk8).symm (by rw [if_neg hk9]) dX7_shift_74
    have c45 : (zh_non sort rel) = true := zk_b1.mp c45
    refine lv_bipush (v := (-11)) Z.1 Z.2.1 dX7_shift_48 (by decide +kernel) ?_
    have hk9 : ¬ zh_okc (nI d) (nI d2) sort rel sort rel len len i9 j9 nn = true := zh_okc_2 c45
    exact zk_reti Z hR_ hlk hK hQ G () (zh_shc_n2 hA1 c37 c45).symm (by rw [if_neg hk9]) dX7_shift_50
  have c11 : (zb_w 6 x2) = false := zk_b0.mp c11
  refine lv_iconst (v := (-1)) Z.1 Z.2.1 dX7_shift_14 (by decide +kernel) ?_
  have hk9 : ¬ zh_okc (nI d) x2 sort rel sort rel len len i9 j9 nn = true := by unfold zh_okc; rw [c11]; simp
  exact zk_reti Z hR_ hlk hK hQ G () (by unfold zh_shc; rw [c11, Bool.and_false]; rfl) (by rw [if_neg hk9]) dX7_shift_15

set_option maxRecDepth 100000 in
set_option maxHeartbeats 4000000 in
theorem ct_X7_shift2 (l : Launch) (D : va_G) (g : Nat → ClassId) (τ : Nat → Nat) (a : Nat → Nat) (pic : Bool) (storm : Nat) (chance : Int32) (sf : Nat → Option Nat) (so : Nat) (si : Nat) (sort : Int32) (len : Nat) (rel : Int32) (It : Nat → Int64) (so2 : Nat) (si2 : Nat) (sort2 : Int32) (len2 : Nat) (rel2 : Int32) (It2 : Nat → Int64) (x : Int32) (i9 : Int32) (x2 : Int32) (j9 : Int32) (nn : Int32) (hlen : len ≤ 60) (hlen2 : len2 ≤ 60) (hsf : zb_w 6 x = true → sf (x.toInt.toNat) = some so) (hsf2 : zb_w 6 x2 = true → sf (x2.toInt.toNat) = some so2) : zk_MI l D g τ yX7_shift wsX7_shift rm_X7_shift [.ref (a 0), .int x, .int i9, .int x2, .int j9, .int nn] [(a 0, .inr (7, [.ref (a 1), .ref (a 2), .ref (a 3), .ref (a 4), .ref (a 50), .ref (a 60), .ref (a 7), .ref (a 8), .int (zk_b pic), .int (nI storm), .int chance])), (a 8, .inl (g 4, 6, .inr (.inr (.inr (.inr sf))))), (so, .inr (4, [.ref si, .int sort, .int (nI len), .int rel])), (si, .inl (g 1, 60, .inr (.inl It))), (so2, .inr (4, [.ref si2, .int sort2, .int (nI len2), .int rel2])), (si2, .inl (g 1, 60, .inr (.inl It2)))] (fun (r : Int32) (_ : Unit) => r = zh_shc x x2 sort rel sort2 rel2 len len2 i9 j9 nn) (fun (_ : Unit) => [(a 0, .inr (7, [.ref (a 1), .ref (a 2), .ref (a 3), .ref (a 4), .ref (a 50), .ref (a 60), .ref (a 7), .ref (a 8), .int (zk_b pic), .int (nI storm), .int chance])), (a 8, .inl (g 4, 6, .inr (.inr (.inr (.inr sf))))), (so, .inr (4, [.ref si, .int sort, .int (nI len), .int rel])), (si, .inl (g 1, 60, .inr (.inl It))), (so2, .inr (4, [.ref si2, .int sort2, .int (nI len2), .int rel2])), (si2, .inl (g 1, 60, .inr (.inl (if zh_okc x x2 sort rel sort2 rel2 len len2 i9 j9 nn = true then va_cpy It It2 i9.toInt.toNat j9.toInt.toNat nn.toInt.toNat else It2))))]) := by
  refine zk_of (Qc := fun A => va_Qi (fun (r : Int32) (_ : Unit) => r = zh_shc x x2 sort rel sort2 rel2 len len2 i9 j9 nn) (zk_B D g A (fun (_ : Unit) => [(a 0, .inr (7, [.ref (a 1), .ref (a 2), .ref (a 3), .ref (a 4), .ref (a 50), .ref (a 60), .ref (a 7), .ref (a 8), .int (zk_b pic), .int (nI storm), .int chance])), (a 8, .inl (g 4, 6, .inr (.inr (.inr (.inr sf))))), (so, .inr (4, [.ref si, .int sort, .int (nI len), .int rel])), (si, .inl (g 1, 60, .inr (.inl It))), (so2, .inr (4, [.ref si2, .int sort2, .int (nI len2), .int rel2])), (si2, .inl (g 1, 60, .inr (.inl (if zh_okc x x2 sort rel sort2 rel2 len len2 i9 j9 nn = true then va_cpy It It2 i9.toInt.toNat j9.toInt.toNat nn.toInt.toNat else It2))))])) A) (cc := cX7_shift) (maxL := 8) (ret := (some .int)) (own := RX7) (by decide) rfl rfl (Nat.le_of_ble_eq_true rfl) ?_
  intro pP eE sS mM args below meth cC aA ls qQ Z hR_ hlk hnm hK hT hA hQ G hl
  have hinX4 : ∀ w ∈ u_ws RX4 TX4 4, w ∈ wsX7_shift := (fun _ h => List.mem_cons_of_mem _ (List.mem_append_right _ h))
  have hinX7 : ∀ w ∈ u_ws RX7 TX7 11, w ∈ wsX7_shift := (fun _ h => List.mem_cons_of_mem _ (List.mem_append_left _ (List.mem_append_right _ h)))
  refine lv_iload_n Z.1 Z.2.1 dX7_shift_0 rfl (lv_at hl 1 rfl) ?_
  refine zk_ci (WF := fun (_ : Unit) => [(a 0, .inr (7, [.ref (a 1), .ref (a 2), .ref (a 3), .ref (a 4), .ref (a 50), .ref (a 60), .ref (a 7), .ref (a 8), .int (zk_b pic), .int (nI storm), .int chance])), (a 8, .inl (g 4, 6, .inr (.inr (.inr (.inr sf))))), (so, .inr (4, [.ref si, .int sort, .int (nI len), .int rel])), (si, .inl (g 1, 60, .inr (.inl It))), (so2, .inr (4, [.ref si2, .int sort2, .int (nI len2), .int rel2])), (si2, .inl (g 1, 60, .inr (.inl It2)))]) (wr := [(a 0, .inr (7, [.ref (a 1), .ref (a 2), .ref (a 3), .ref (a 4), .ref (a 50), .ref (a 60), .ref (a 7), .ref (a 8), .int (zk_b pic), .int (nI storm), .int chance])), (a 8, .inl (g 4, 6, .inr (.inr (.inr (.inr sf))))), (so, .inr (4, [.ref si, .int sort, .int (nI len), .int rel])), (si, .inl (g 1, 60, .inr (.inl It))), (so2, .inr (4, [.ref si2, .int sort2, .int (nI len2), .int rel2])), (si2, .inl (g 1, 60, .inr (.inl It2)))]) ⟨rfl, rfl⟩ (zk_rs (As := [.int x]) (rest := []) Z ((ct_X7_isShelf l D g τ x ) sS.heap.size) hK hT hA G [] rfl (by decide) gX7_shift_X7_isShelf rfl dvX7_isShelf ⟨by decide, by decide⟩ rfl hl.1 rfl (Nat.le_of_ble_eq_true rfl) dX7_shift_1 ⟨Nat.zero_le _, Nat.zero_le _⟩) hA G [] [0, 1, 2, 3, 4, 5] [0, 1, 2, 3, 4, 5] rfl rfl (by decide) (by decide) (by decide) (fun _ => rfl) (fun r_1 _ H locs w_1 G => ?_)
  obtain rfl : r_1 = zk_b (zb_w 6 x) := w_1
  refine lv_if_eq (tgt := 14) Z.1 Z.2.1 dX7_shift_4 (by decide) (fun c4 => ?_) (fun c4 => ?_)
  · have c4 : (zb_w 6 x) = false := zk_b0.mp c4
    refine lv_iconst (v := (-1)) Z.1 Z.2.1 dX7_shift_14 (by decide +kernel) ?_
    have hk9 : ¬ zh_okc x x2 sort rel sort2 rel2 len len2 i9 j9 nn = true := by unfold zh_okc; rw [c4]; simp
    exact zk_reti Z hR_ hlk hK hQ G () (by unfold zh_shc; rw [c4, Bool.false_and]; rfl) (by rw [if_neg hk9]) dX7_shift_15
  have c4 : (zb_w 6 x) = true := zk_b1.mp c4
  have c4_0 := c4
  obtain ⟨d, hd, rfl, hd2⟩ := zb_w_ex c4
  have hsd : sf d = some so := by have h9 := hsf c4_0; rw [zb_nat hd] at h9; exact h9
  refine lv_iload_n Z.1 Z.2.1 dX7_shift_7 rfl (lv_at hl 3 rfl) ?_
  refine zk_ci (WF := fun (_ : Unit) => [(a 0, .inr (7, [.ref (a 1), .ref (a 2), .ref (a 3), .ref (a 4), .ref (a 50), .ref (a 60), .ref (a 7), .ref (a 8), .int (zk_b pic), .int (nI storm), .int chance])), (a 8, .inl (g 4, 6, .inr (.inr (.inr (.inr sf))))), (so, .inr (4, [.ref si, .int sort, .int (nI len), .int rel])), (si, .inl (g 1, 60, .inr (.inl It))), (so2, .inr (4, [.ref si2, .int sort2, .int (nI len2), .int rel2])), (si2, .inl (g 1, 60, .inr (.inl It2)))]) (wr := [(a 0, .inr (7, [.ref (a 1), .ref (a 2), .ref (a 3), .ref (a 4), .ref (a 50), .ref (a 60), .ref (a 7), .ref (a 8), .int (zk_b pic), .int (nI storm), .int chance])), (a 8, .inl (g 4, 6, .inr (.inr (.inr (.inr sf))))), (so, .inr (4, [.ref si, .int sort, .int (nI len), .int rel])), (si, .inl (g 1, 60, .inr (.inl It))), (so2, .inr (4, [.ref si2, .int sort2, .int (nI len2), .int rel2])), (si2, .inl (g 1, 60, .inr (.inl It2)))]) ⟨rfl, rfl⟩ (zk_rs (As := [.int x2]) (rest := []) Z ((ct_X7_isShelf l D g τ x2 ) H.size) hK hT hA G [] rfl (by decide) gX7_shift_X7_isShelf rfl dvX7_isShelf ⟨by decide, by decide⟩ rfl hl.1 rfl (Nat.le_of_ble_eq_true rfl) dX7_shift_8 ⟨Nat.zero_le _, Nat.zero_le _⟩) hA G [] [0, 1, 2, 3, 4, 5] [0, 1, 2, 3, 4, 5] rfl rfl (by decide) (by decide) (by decide) (fun _ => rfl) (fun r_8 _ H locs w_8 G => ?_)
  obtain rfl : r_8 = zk_b (zb_w 6 x2) := w_8
  refine lv_if_ne (tgt := 16) Z.1 Z.2.1 dX7_shift_11 (by decide) (fun c11 => ?_) (fun c11 => ?_)
  · have c11 : (zb_w 6 x2) = true := zk_b1.mp c11
    have c11_0 := c11
    obtain ⟨d2, hd2_, rfl, hd22⟩ := zb_w_ex c11
    have hsd2 : sf d2 = some so2 := by have h9 := hsf2 c11_0; rw [zb_nat hd2_] at h9; exact h9
    have hA1 : (zb_w 6 (nI d) && zb_w 6 (nI d2)) = true := by rw [c4_0, c11_0]; rfl
    refine lv_aload_n Z.1 Z.2.1 dX7_shift_16 rfl (lv_at hl 0 rfl) ?_
    refine zk_get (C := RX7) (T := TX7) (N := 11) (ci := 7) Z hK G hinX7 0 rfl rfl 7 (by decide) (List.mem_of_getElem? (i := 1) rfl) rfl (v := .ref (a 8)) rfl dX7_shift_17 ?_
    refine lv_iload_n Z.1 Z.2.1 dX7_shift_20 rfl (lv_at hl 1 rfl) ?_
    refine zk_qald Z hK G 1 rfl (k := d) (by omega) (by decide) (v := so) hsd dX7_shift_21 ?_
    refine lv_astore (lv' := [(6, .ref so), (0, .ref (a 0)), (1, .int (nI d)), (2, .int i9), (3, .int (nI d2)), (4, .int j9), (5, .int nn)]) Z.1 Z.2.1 dX7_shift_22 hl (by decide) rfl (fun ls hl => ?_)
    refine lv_aload_n Z.1 Z.2.1 dX7_shift_24 rfl (lv_at hl 1 rfl) ?_
    refine zk_get (C := RX7) (T := TX7) (N := 11) (ci := 7) Z hK G hinX7 0 rfl rfl 7 (by decide) (List.mem_of_getElem? (i := 1) rfl) rfl (v := .ref (a 8)) rfl dX7_shift_25 ?_
    refine lv_iload_n Z.1 Z.2.1 dX7_shift_28 rfl (lv_at hl 4 rfl) ?_
    refine zk_qald Z hK G 1 rfl (k := d2) (by omega) (by decide) (v := so2) hsd2 dX7_shift_29 ?_
    refine lv_astore (lv' := [(7, .ref so2), (6, .ref so), (0, .ref (a 0)), (1, .int (nI d)), (2, .int i9), (3, .int (nI d2)), (4, .int j9), (5, .int nn)]) Z.1 Z.2.1 dX7_shift_30 hl (by decide) rfl (fun ls hl => ?_)
    refine lv_aload Z.1 Z.2.1 dX7_shift_32 (lv_at hl 1 rfl) ?_
    refine zk_ci (WF := fun (_ : Unit) => [(a 0, .inr (7, [.ref (a 1), .ref (a 2), .ref (a 3), .ref (a 4), .ref (a 50), .ref (a 60), .ref (a 7), .ref (a 8), .int (zk_b pic), .int (nI storm), .int chance])), (a 8, .inl (g 4, 6, .inr (.inr (.inr (.inr sf))))), (so, .inr (4, [.ref si, .int sort, .int (nI len), .int rel])), (si, .inl (g 1, 60, .inr (.inl It))), (so2, .inr (4, [.ref si2, .int sort2, .int (nI len2), .int rel2])), (si2, .inl (g 1, 60, .inr (.inl It2)))]) (wr := [(a 0, .inr (7, [.ref (a 1), .ref (a 2), .ref (a 3), .ref (a 4), .ref (a 50), .ref (a 60), .ref (a 7), .ref (a 8), .int (zk_b pic), .int (nI storm), .int chance])), (a 8, .inl (g 4, 6, .inr (.inr (.inr (.inr sf))))), (si, .inl (g 1, 60, .inr (.inl It))), (so2, .inr (4, [.ref si2, .int sort2, .int (nI len2), .int rel2])), (si2, .inl (g 1, 60, .inr (.inl It2)))]) ⟨rfl, rfl⟩ (zk_rv (As := []) (rest := []) (q0 := 2) (ci := 4) Z ((ct_X4_holdsNothing l D g τ so si sort len rel ) H.size) hK hT hA G [2] rfl (by decide) rfl rfl gX7_shift_X4_holdsNothing rfl dvX4_holdsNothing ⟨by decide, by decide⟩ rfl hl.1 rfl (Nat.le_of_ble_eq_true rfl) dX7_shift_34 ⟨Nat.zero_le _, Nat.zero_le _⟩) hA G [2] [0, 1, 3, 4, 5] [0, 1, 5, 2, 3, 4] rfl rfl (by decide) (by decide) (by decide) (fun _ => rfl) (fun r_34 _ H locs w_34 G => ?_)
    obtain rfl : r_34 = zk_b (zh_non sort rel) := w_34
    refine lv_if_ne (tgt := 48) Z.1 Z.2.1 dX7_shift_37 (by decide) (fun c37 => ?_) (fun c37 => ?_)
    · have c37 : (zh_non sort rel) = true := zk_b1.mp c37
      refine lv_bipush (v := (-11)) Z.1 Z.2.1 dX7_shift_48 (by decide +kernel) ?_
      have hk9 : ¬ zh_okc (nI d) (nI d2) sort rel sort2 rel2 len len2 i9 j9 nn = true := zh_okc_1 c37
      exact zk_reti Z hR_ hlk hK hQ G () (zh_shc_n1 hA1 c37).symm (by rw [if_neg hk9]) dX7_shift_50
    have c37 : (zh_non sort rel) = false := zk_b0.mp c37
    refine lv_aload Z.1 Z.2.1 dX7_shift_40 (lv_at hl 0 rfl) ?_
    refine zk_ci (WF := fun (_ : Unit) => [(a 0, .inr (7, [.ref (a 1), .ref (a 2), .ref (a 3), .ref (a 4), .ref (a 50), .ref (a 60), .ref (a 7), .ref (a 8), .int (zk_b pic), .int (nI storm), .int chance])), (a 8, .inl (g 4, 6, .inr (.inr (.inr (.inr sf))))), (so, .inr (4, [.ref si, .int sort, .int (nI len), .int rel])), (si, .inl (g 1, 60, .inr (.inl It))), (so2, .inr (4, [.ref si2, .int sort2, .int (nI len2), .int rel2])), (si2, .inl (g 1, 60, .inr (.inl It2)))]) (wr := [(a 0, .inr (7, [.ref (a 1), .ref (a 2), .ref (a 3), .ref (a 4), .ref (a 50), .ref (a 60), .ref (a 7), .ref (a 8), .int (zk_b pic), .int (nI storm), .int chance])), (a 8, .inl (g 4, 6, .inr (.inr (.inr (.inr sf))))), (so, .inr (4, [.ref si, .int sort, .int (nI len), .int rel])), (si, .inl (g 1, 60, .inr (.inl It))), (si2, .inl (g 1, 60, .inr (.inl It2)))]) ⟨rfl, rfl⟩ (zk_rv (As := []) (rest := []) (q0 := 4) (ci := 4) Z ((ct_X4_holdsNothing l D g τ so2 si2 sort2 len2 rel2 ) H.size) hK hT hA G [4] rfl (by decide) rfl rfl gX7_shift_X4_holdsNothing rfl dvX4_holdsNothing ⟨by decide, by decide⟩ rfl hl.1 rfl (Nat.le_of_ble_eq_true rfl) dX7_shift_42 ⟨Nat.zero_le _, Nat.zero_le _⟩) hA G [4] [0, 1, 2, 3, 5] [0, 1, 2, 3, 5, 4] rfl rfl (by decide) (by decide) (by decide) (fun _ => rfl) (fun r_42 _ H locs w_42 G => ?_)
    obtain rfl : r_42 = zk_b (zh_non sort2 rel2) := w_42
    refine lv_if_eq (tgt := 51) Z.1 Z.2.1 dX7_shift_45 (by decide) (fun c45 => ?_) (fun c45 => ?_)
    · have c45 : (zh_non sort2 rel2) = false := zk_b0.mp c45
      refine lv_aload Z.1 Z.2.1 dX7_shift_51 (lv_at hl 1 rfl) ?_
      refine zk_ci (WF := fun (_ : Unit) => [(a 0, .inr (7, [.ref (a 1), .ref (a 2), .ref (a 3), .ref (a 4), .ref (a 50), .ref (a 60), .ref (a 7), .ref (a 8), .int (zk_b pic), .int (nI storm), .int chance])), (a 8, .inl (g 4, 6, .inr (.inr (.inr (.inr sf))))), (so, .inr (4, [.ref si, .int sort, .int (nI len), .int rel])), (si, .inl (g 1, 60, .inr (.inl It))), (so2, .inr (4, [.ref si2, .int sort2, .int (nI len2), .int rel2])), (si2, .inl (g 1, 60, .inr (.inl It2)))]) (wr := [(a 0, .inr (7, [.ref (a 1), .ref (a 2), .ref (a 3), .ref (a 4), .ref (a 50), .ref (a 60), .ref (a 7), .ref (a 8), .int (zk_b pic), .int (nI storm), .int chance])), (a 8, .inl (g 4, 6, .inr (.inr (.inr (.inr sf))))), (si, .inl (g 1, 60, .inr (.inl It))), (so2, .inr (4, [.ref si2, .int sort2, .int (nI len2), .int rel2])), (si2, .inl (g 1, 60, .inr (.inl It2)))]) ⟨rfl, rfl⟩ (zk_rv (As := []) (rest := []) (q0 := 2) (ci := 4) Z ((ct_X4_holdsRow l D g τ so si sort len rel ) H.size) hK hT hA G [2] rfl (by decide) rfl rfl gX7_shift_X4_holdsRow rfl dvX4_holdsRow ⟨by decide, by decide⟩ rfl hl.1 rfl (Nat.le_of_ble_eq_true rfl) dX7_shift_53 ⟨Nat.zero_le _, Nat.zero_le _⟩) hA G [2] [0, 1, 3, 4, 5] [0, 1, 5, 2, 3, 4] rfl rfl (by decide) (by decide) (by decide) (fun _ => rfl) (fun r_53 _ H locs w_53 G => ?_)
      obtain rfl : r_53 = zk_b (decide (¬ sort < 0)) := w_53
      refine lv_if_eq (tgt := 72) Z.1 Z.2.1 dX7_shift_56 (by decide) (fun c56 => ?_) (fun c56 => ?_)
      · have c56 : (decide (¬ sort < 0)) = false := zk_b0.mp c56
        refine lv_bipush (v := (-12)) Z.1 Z.2.1 dX7_shift_72 (by decide +kernel) ?_
        have hk8 : (decide (¬ sort < 0) && (decide (¬ sort2 < 0) && decide (sort2 = sort))) = false := by rw [c56]; simp
        have hk9 : ¬ zh_okc (nI d) (nI d2) sort rel sort2 rel2 len len2 i9 j9 nn = true := zh_okc_3 hk8
        exact zk_reti Z hR_ hlk hK hQ G () (zh_shc_n3 hA1 c37 c45 hk8).symm (by rw [if_neg hk9]) dX7_shift_74
      have c56 : (decide (¬ sort < 0)) = true := zk_b1.mp c56
      refine lv_aload Z.1 Z.2.1 dX7_shift_59 (lv_at hl 0 rfl) ?_
      refine lv_aload Z.1 Z.2.1 dX7_shift_61 (lv_at hl 1 rfl) ?_
      refine zk_get (C := RX4) (T := TX4) (N := 4) (ci := 4) Z hK G hinX4 2 rfl rfl 1 (by decide) (List.mem_of_getElem? (i := 2) rfl) rfl (v := .int sort) rfl dX7_shift_63 ?_
      refine zk_ci (WF := fun (_ : Unit) => [(a 0, .inr (7, [.ref (a 1), .ref (a 2), .ref (a 3), .ref (a 4), .ref (a 50), .ref (a 60), .ref (a 7), .ref (a 8), .int (zk_b pic), .int (nI storm), .int chance])), (a 8, .inl (g 4, 6, .inr (.inr (.inr (.inr sf))))), (so, .inr (4, [.ref si, .int sort, .int (nI len), .int rel])), (si, .inl (g 1, 60, .inr (.inl It))), (so2, .inr (4, [.ref si2, .int sort2, .int (nI len2), .int rel2])), (si2, .inl (g 1, 60, .inr (.inl It2)))]) (wr := [(a 0, .inr (7, [.ref (a 1), .ref (a 2), .ref (a 3), .ref (a 4), .ref (a 50), .ref (a 60), .ref (a 7), .ref (a 8), .int (zk_b pic), .int (nI storm), .int chance])), (a 8, .inl (g 4, 6, .inr (.inr (.inr (.inr sf))))), (so, .inr (4, [.ref si, .int sort, .int (nI len), .int rel])), (si, .inl (g 1, 60, .inr (.inl It))), (si2, .inl (g 1, 60, .inr (.inl It2)))]) ⟨rfl, rfl⟩ (zk_rv (As := [.int sort]) (rest := []) (q0 := 4) (ci := 4) Z ((ct_X4_holdsRowOf l D g τ so2 si2 sort2 len2 rel2 sort ) H.size) hK hT hA G [4] rfl (by decide) rfl rfl gX7_shift_X4_holdsRowOf rfl dvX4_holdsRowOf ⟨by decide, by decide⟩ rfl hl.1 rfl (Nat.le_of_ble_eq_true rfl) dX7_shift_66 ⟨Nat.zero_le _, Nat.zero_le _⟩) hA G [4] [0, 1, 2, 3, 5] [0, 1, 2, 3, 5, 4] rfl rfl (by decide) (by decide) (by decide) (fun _ => rfl) (fun r_66 _ H locs w_66 G => ?_)
      obtain rfl : r_66 = zk_b (decide (¬ sort2 < 0) && decide (sort2 = sort)) := w_66
      refine lv_if_ne (tgt := 75) Z.1 Z.2.1 dX7_shift_69 (by decide) (fun c69 => ?_) (fun c69 => ?_)
      · have c69 : (decide (¬ sort2 < 0) && decide (sort2 = sort)) = true := zk_b1.mp c69
        have hA4 : (decide (¬ sort < 0) && (decide (¬ sort2 < 0) && decide (sort2 = sort))) = true := by rw [c69, c56]; rfl
        refine lv_aload Z.1 Z.2.1 dX7_shift_75 (lv_at hl 1 rfl) ?_
        refine lv_iload_n Z.1 Z.2.1 dX7_shift_77 rfl (lv_at hl 4 rfl) ?_
        refine lv_iload Z.1 Z.2.1 dX7_shift_78 (lv_at hl 7 rfl) ?_
        refine zk_ci (WF := fun (_ : Unit) => [(a 0, .inr (7, [.ref (a 1), .ref (a 2), .ref (a 3), .ref (a 4), .ref (a 50), .ref (a 60), .ref (a 7), .ref (a 8), .int (zk_b pic), .int (nI storm), .int chance])), (a 8, .inl (g 4, 6, .inr (.inr (.inr (.inr sf))))), (so, .inr (4, [.ref si, .int sort, .int (nI len), .int rel])), (si, .inl (g 1, 60, .inr (.inl It))), (so2, .inr (4, [.ref si2, .int sort2, .int (nI len2), .int rel2])), (si2, .inl (g 1, 60, .inr (.inl It2)))]) (wr := [(a 0, .inr (7, [.ref (a 1), .ref (a 2), .ref (a 3), .ref (a 4), .ref (a 50), .ref (a 60), .ref (a 7), .ref (a 8), .int (zk_b pic), .int (nI storm), .int chance])), (a 8, .inl (g 4, 6, .inr (.inr (.inr (.inr sf))))), (si, .inl (g 1, 60, .inr (.inl It))), (so2, .inr (4, [.ref si2, .int sort2, .int (nI len2), .int rel2])), (si2, .inl (g 1, 60, .inr (.inl It2)))]) ⟨rfl, rfl⟩ (zk_rv (As := [.int i9, .int nn]) (rest := []) (q0 := 2) (ci := 4) Z ((ct_X4_hasPlaces l D g τ so si sort len rel i9 nn ) H.size) hK hT hA G [2] rfl (by decide) rfl rfl gX7_shift_X4_hasPlaces rfl dvX4_hasPlaces ⟨by decide, by decide⟩ rfl hl.1 rfl (Nat.le_of_ble_eq_true rfl) dX7_shift_80 ⟨Nat.zero_le _, Nat.zero_le _⟩) hA G [2] [0, 1, 3, 4, 5] [0, 1, 5, 2, 3, 4] rfl rfl (by decide) (by decide) (by decide) (fun _ => rfl) (fun r_80 _ H locs w_80 G => ?_)
        obtain rfl : r_80 = zk_b (zh_pl len i9 nn) := w_80
        refine lv_if_eq (tgt := 98) Z.1 Z.2.1 dX7_shift_83 (by decide) (fun c83 => ?_) (fun c83 => ?_)
        · have c83 : (zh_pl len i9 nn) = false := zk_b0.mp c83
          refine lv_bipush (v := (-13)) Z.1 Z.2.1 dX7_shift_98 (by decide +kernel) ?_
          have hk8 : (zh_pl len i9 nn && zh_pl len2 j9 nn) = false := by rw [c83]; simp
          have hk9 : ¬ zh_okc (nI d) (nI d2) sort rel sort2 rel2 len len2 i9 j9 nn = true := zh_okc_4 hk8
          exact zk_reti Z hR_ hlk hK hQ G () (zh_shc_n4 hA1 c37 c45 hA4 hk8).symm (by rw [if_neg hk9]) dX7_shift_100
        have c83 : (zh_pl len i9 nn) = true := zk_b1.mp c83
        refine lv_aload Z.1 Z.2.1 dX7_shift_86 (lv_at hl 0 rfl) ?_
        refine lv_iload Z.1 Z.2.1 dX7_shift_88 (lv_at hl 6 rfl) ?_
        refine lv_iload Z.1 Z.2.1 dX7_shift_90 (lv_at hl 7 rfl) ?_
        refine zk_ci (WF := fun (_ : Unit) => [(a 0, .inr (7, [.ref (a 1), .ref (a 2), .ref (a 3), .ref (a 4), .ref (a 50), .ref (a 60), .ref (a 7), .ref (a 8), .int (zk_b pic), .int (nI storm), .int chance])), (a 8, .inl (g 4, 6, .inr (.inr (.inr (.inr sf))))), (so, .inr (4, [.ref si, .int sort, .int (nI len), .int rel])), (si, .inl (g 1, 60, .inr (.inl It))), (so2, .inr (4, [.ref si2, .int sort2, .int (nI len2), .int rel2])), (si2, .inl (g 1, 60, .inr (.inl It2)))]) (wr := [(a 0, .inr (7, [.ref (a 1), .ref (a 2), .ref (a 3), .ref (a 4), .ref (a 50), .ref (a 60), .ref (a 7), .ref (a 8), .int (zk_b pic), .int (nI storm), .int chance])), (a 8, .inl (g 4, 6, .inr (.inr (.inr (.inr sf))))), (so, .inr (4, [.ref si, .int sort, .int (nI len), .int rel])), (si, .inl (g 1, 60, .inr (.inl It))), (si2, .inl (g 1, 60, .inr (.inl It2)))]) ⟨rfl, rfl⟩ (zk_rv (As := [.int j9, .int nn]) (rest := []) (q0 := 4) (ci := 4) Z ((ct_X4_hasPlaces l D g τ so2 si2 sort2 len2 rel2 j9 nn ) H.size) hK hT hA G [4] rfl (by decide) rfl rfl gX7_shift_X4_hasPlaces rfl dvX4_hasPlaces ⟨by decide, by decide⟩ rfl hl.1 rfl (Nat.le_of_ble_eq_true rfl) dX7_shift_92 ⟨Nat.zero_le _, Nat.zero_le _⟩) hA G [4] [0, 1, 2, 3, 5] [0, 1, 2, 3, 5, 4] rfl rfl (by decide) (by decide) (by decide) (fun _ => rfl) (fun r_92 _ H locs w_92 G => ?_)
        obtain rfl : r_92 = zk_b (zh_pl len2 j9 nn) := w_92
        refine lv_if_ne (tgt := 101) Z.1 Z.2.1 dX7_shift_95 (by decide) (fun c95 => ?_) (fun c95 => ?_)
        · have c95 : (zh_pl len2 j9 nn) = true := zk_b1.mp c95
          have hA2 := c37
          have hA3 := c45
          have hA5 : (zh_pl len i9 nn && zh_pl len2 j9 nn) = true := by rw [c83, c95]; rfl
          obtain ⟨i, u, rfl, rfl, hiu⟩ := zh_pl_ex hlen c83
          obtain ⟨j, u2, rfl, eu, hju⟩ := zh_pl_ex hlen2 c95
          have hu31 : u < 2 ^ 31 := by omega
          have hu2 : u2 = u := (nI_eq (by omega) (by omega)).mp eu.symm
          subst hu2
          refine lv_aload Z.1 Z.2.1 dX7_shift_101 (lv_at hl 1 rfl) ?_
          refine zk_get (C := RX4) (T := TX4) (N := 4) (ci := 4) Z hK G hinX4 2 rfl rfl 0 (by decide) (List.mem_of_getElem? (i := 3) rfl) rfl (v := .ref si) rfl dX7_shift_103 ?_
          refine lv_iload_n Z.1 Z.2.1 dX7_shift_106 rfl (lv_at hl 4 rfl) ?_
          refine lv_aload Z.1 Z.2.1 dX7_shift_107 (lv_at hl 0 rfl) ?_
          refine zk_get (C := RX4) (T := TX4) (N := 4) (ci := 4) Z hK G hinX4 4 rfl rfl 0 (by decide) (List.mem_of_getElem? (i := 3) rfl) rfl (v := .ref si2) rfl dX7_shift_109 ?_
          refine lv_iload Z.1 Z.2.1 dX7_shift_112 (lv_at hl 6 rfl) ?_
          refine lv_iload Z.1 Z.2.1 dX7_shift_114 (lv_at hl 7 rfl) ?_
          refine zk_copyl Z hl.1 (List.mem_of_getElem? (i := 4) rfl) (List.mem_of_getElem? (i := 5) rfl) (List.mem_of_getElem? (i := 6) rfl) (List.mem_of_getElem? (i := 7) rfl) hK G 3 5 rfl rfl (sp := i) (dp := j) (n := u2) (by omega) (by omega) (by decide) (by decide) (by decide) (by decide) rfl (ws' := [(a 0, .inr (7, [.ref (a 1), .ref (a 2), .ref (a 3), .ref (a 4), .ref (a 50), .ref (a 60), .ref (a 7), .ref (a 8), .int (zk_b pic), .int (nI storm), .int chance])), (a 8, .inl (g 4, 6, .inr (.inr (.inr (.inr sf))))), (so, .inr (4, [.ref si, .int sort, .int (nI len), .int rel])), (si, .inl (g 1, 60, .inr (.inl It))), (so2, .inr (4, [.ref si2, .int sort2, .int (nI len2), .int rel2])), (si2, .inl (g 1, 60, .inr (.inl (va_cpy It It2 i j u2))))]) rfl dX7_shift_116 (fun H locs G => ?_)
          refine lv_iload Z.1 Z.2.1 dX7_shift_119 (lv_at hl 7 rfl) ?_
          have hk9 : zh_okc (nI d) (nI d2) sort rel sort2 rel2 len len2 (nI i) (nI j) (nI u2) = true := by exact zh_okc_y hA1 hA2 hA3 hA4 hA5
          exact zk_reti Z hR_ hlk hK hQ G () (zh_shc_ok hA1 hA2 hA3 hA4 hA5).symm (by rw [if_pos hk9, zb_nat (by omega), zb_nat (by omega), zb_nat (by omega)]) dX7_shift_121
        have c95 : (zh_pl len2 j9 nn) = false := zk_b0.mp c95
        refine lv_bipush (v := (-13)) Z.1 Z.2.1 dX7_shift_98 (by decide +kernel) ?_
        have hk8 : (zh_pl len i9 nn && zh_pl len2 j9 nn) = false := by rw [c95]; simp
        have hk9 : ¬ zh_okc (nI d) (nI d2) sort rel sort2 rel2 len len2 i9 j9 nn = true := zh_okc_4 hk8
        exact zk_reti Z hR_ hlk hK hQ G () (zh_shc_n4 hA1 c37 c45 hA4 hk8).symm (by rw [if_neg hk9]) dX7_shift_100
      have c69 : (decide (¬ sort2 < 0) && decide (sort2 = sort)) = false := zk_b0.mp c69
      refine lv_bipush (v := (-12)) Z.1 Z.2.1 dX7_shift_72 (by decide +kernel) ?_
      have hk8 : (decide (¬ sort < 0) && (decide (¬ sort2 < 0) && decide (sort2 = sort))) = false := by rw [c69]; simp
      have hk9 : ¬ zh_okc (nI d) (nI d2) sort rel sort2 rel2 len len2 i9 j9 nn = true := zh_okc_3 hk8
      exact zk_reti Z hR_ hlk hK hQ G () (zh_shc_n3 hA1 c37 c45 hk8).symm (by rw [if_neg hk9]) dX7_shift_74
    have c45 : (zh_non sort2 rel2) = true := zk_b1.mp c45
    refine lv_bipush (v := (-11)) Z.1 Z.2.1 dX7_shift_48 (by decide +kernel) ?_
    have hk9 : ¬ zh_okc (nI d) (nI d2) sort rel sort2 rel2 len len2 i9 j9 nn = true := zh_okc_2 c45
    exact zk_reti Z hR_ hlk hK hQ G () (zh_shc_n2 hA1 c37 c45).symm (by rw [if_neg hk9]) dX7_shift_50
  have c11 : (zb_w 6 x2) = false := zk_b0.mp c11
  refine lv_iconst (v := (-1)) Z.1 Z.2.1 dX7_shift_14 (by decide +kernel) ?_
  have hk9 : ¬ zh_okc (nI d) x2 sort rel sort2 rel2 len len2 i9 j9 nn = true := by unfold zh_okc; rw [c11]; simp
  exact zk_reti Z hR_ hlk hK hQ G () (by unfold zh_shc; rw [c11, Bool.and_false]; rfl) (by rw [if_neg hk9]) dX7_shift_15


def zh_wsOk (x nn : Int32) : Bool := zb_w 6 x && (decide (¬ nn < 1) && decide (nn ≤ 6))
def zh_wsGo (x nn sort rel : Int32) : Bool := zh_wsOk x nn && (!zh_non sort rel && (decide (¬ sort < 0) && decide (sort = nI 0)))
/-- how many come from a row: none from a place below 0 -/
def zh_wsC (It : Nat → Int64) (len n : Nat) (x i nn sort rel : Int32) : Nat := if zh_wsGo x nn sort rel = true then (if i < 0 then 0 else zh_cw It len nn.toInt.toNat n i.toInt.toNat) else 0
def zh_wsA (It : Nat → Int64) (len n : Nat) (x i nn sort rel : Int32) : Int32 := if zh_wsOk x nn = true then (if zh_non sort rel = true then nI 0 else if (decide (¬ sort < 0) && decide (sort = nI 0)) = true then nI (zh_wsC It len n x i nn sort rel) else -12) else -1
theorem zh_cw_y {It : Nat → Int64} {len f n k : Nat} (h1 : k + 3 ≤ len) (h2 : n < 6) (h3 : zs_isW (It k).toInt32 (It (k + 1)).toInt32 (It (k + 2)).toInt32 = true) : zh_cw It len (f + 1) n k = zh_cw It len f (n + 1) (k + 3) + 1 := if_pos ⟨h1, h2, h3⟩
theorem zh_cw_n {It : Nat → Int64} {len f n k : Nat} (h : ¬ (k + 3 ≤ len ∧ n < 6 ∧ zs_isW (It k).toInt32 (It (k + 1)).toInt32 (It (k + 2)).toInt32 = true)) : zh_cw It len (f + 1) n k = 0 := if_neg h
theorem zh_pl3 {len : Nat} {x : Int32} (hl : len ≤ 60) (h : zh_pl len x (nI 3) = true) : ∃ k : Nat, k < 2 ^ 31 ∧ x = nI k ∧ k + 3 ≤ len := by
  obtain ⟨k, n, rfl, e, h2⟩ := zh_pl_ex hl h
  have : n = 3 := (nI_eq (by omega) (by decide)).mp e.symm
  subst this
  exact ⟨k, by omega, rfl, h2⟩
theorem zh_pl3n {len k : Nat} (hl : len ≤ 60) (hk : k < 2 ^ 31) : zh_pl len (nI k) (nI 3) = decide (k + 3 ≤ len) := by
  by_cases h : k + 3 ≤ len
  · rw [decide_eq_true h]
    simp only [zh_pl, Bool.and_eq_true, decide_eq_true_eq]
    refine ⟨⟨⟨nI_pos (by omega), by decide⟩, fun q => ?_⟩, fun q => ?_⟩
    · have := zk_lt (by omega) (by omega) q; omega
    · rw [pk_sub (by omega)] at q
      have := zk_lt (by omega) (by omega) q; omega
  · rw [decide_eq_false h]
    cases h9 : zh_pl len (nI k) (nI 3)
    · rfl
    · obtain ⟨k2, h1, h2, h3⟩ := zh_pl3 hl h9
      have := (nI_eq (by omega) (by omega)).mp h2
      omega
theorem zs_isW_ex {x y z : Int32} (h : zs_isW x y z = true) : ∃ p q r : Nat, x = nI p ∧ y = nI q ∧ z = nI r ∧ 1 ≤ p ∧ p ≤ 12 ∧ q < p ∧ 1 ≤ r ∧ r ≤ 9 := by
  simp only [zs_isW, Bool.and_eq_true, decide_eq_true_eq] at h
  obtain ⟨⟨⟨⟨⟨h1, h2⟩, h3⟩, h4⟩, h5⟩, h6⟩ := h
  obtain ⟨p, hp, rfl⟩ := nI_of (zb_n1 h1)
  obtain ⟨q, hq, rfl⟩ := nI_of h3
  obtain ⟨r, hr, rfl⟩ := nI_of (zb_n1 h5)
  exact ⟨p, q, r, rfl, rfl, rfl, zk_nlt (b := 1) hp (by decide) h1, zk_nlt (a := 12) (by decide) hp h2, zk_nle hp hq h4, zk_nlt (b := 1) hr (by decide) h5, zk_nlt (a := 9) (by decide) hr h6⟩
theorem zh_pl_neg {len : Nat} {x y : Int32} (h : x < 0) : zh_pl len x y = false := by
  unfold zh_pl; rw [decide_eq_false (fun q => q h)]; rfl

abbrev rm_X7_worlds : Room := { frames := 3, cells := 0, slots := 0, locals := 67 }
theorem dvX7_worlds : zk_dv yX7_worlds RX7 3 := by decide +kernel
set_option maxRecDepth 100000 in
set_option maxHeartbeats 1000000 in
theorem ct_X7_worlds (l : Launch) (D : va_G) (g : Nat → ClassId) (τ : Nat → Nat) (a : Nat → Nat) (pic : Bool) (storm : Nat) (chance : Int32) (n : Nat) (hide : Nat) (ver : Nat) (ew : Int32) (ek : Bool) (P : Nat → Nat) (S : Nat → Nat) (Q : Nat → Nat) (T : Nat → Int32) (sf : Nat → Option Nat) (so : Nat) (si : Nat) (sort : Int32) (len : Nat) (rel : Int32) (It : Nat → Int64) (x : Int32) (i9 : Int32) (nn : Int32) (hn6 : n ≤ 6) (hlen : len ≤ 60) (hsf : zb_w 6 x = true → sf (x.toInt.toNat) = some so) : zk_MI l D g τ yX7_worlds wsX7_worlds rm_X7_worlds [.ref (a 0), .int x, .int i9, .int nn] [(a 0, .inr (7, [.ref (a 1), .ref (a 2), .ref (a 3), .ref (a 4), .ref (a 50), .ref (a 60), .ref (a 7), .ref (a 8), .int (zk_b pic), .int (nI storm), .int chance])), (a 2, .inr (5, [.ref (a 20), .ref (a 21), .ref (a 22), .int (nI n), .int (nI hide), .ref (a 1), .ref (a 23), .ref (a 24), .int (nI ver), .int ew, .int (zk_b ek)])), (a 20, .inl (g 0, 7, .inl (fun i => nI (P i)))), (a 21, .inl (g 0, 7, .inl (fun i => nI (S i)))), (a 22, .inl (g 0, 7, .inl (fun i => nI (Q i)))), (a 23, .inl (g 2, 3024, .inl T)), (a 8, .inl (g 4, 6, .inr (.inr (.inr (.inr sf))))), (so, .inr (4, [.ref si, .int sort, .int (nI len), .int rel])), (si, .inl (g 1, 60, .inr (.inl It)))] (fun (r : Int32) (uu : Nat × Nat × Bool × (Nat → Nat) × (Nat → Nat) × (Nat → Nat) × (Nat → Int32)) => (r = zh_wsA It len n x i9 nn sort rel) ∧ ((uu.1, uu.2.1, uu.2.2.1, uu.2.2.2.1, uu.2.2.2.2.1, uu.2.2.2.2.2.1, uu.2.2.2.2.2.2) = (n + (zh_wsC It len n x i9 nn sort rel), ver + (zh_wsC It len n x i9 nn sort rel), (if (zh_wsC It len n x i9 nn sort rel) = 0 then ek else false), zh_ad It P n (i9.toInt.toNat) 0 (zh_wsC It len n x i9 nn sort rel), zh_ad It S n (i9.toInt.toNat) 1 (zh_wsC It len n x i9 nn sort rel), zh_ad It Q n (i9.toInt.toNat) 2 (zh_wsC It len n x i9 nn sort rel), zh_cl T n (zh_wsC It len n x i9 nn sort rel)))) (fun (uu : Nat × Nat × Bool × (Nat → Nat) × (Nat → Nat) × (Nat → Nat) × (Nat → Int32)) => [(a 0, .inr (7, [.ref (a 1), .ref (a 2), .ref (a 3), .ref (a 4), .ref (a 50), .ref (a 60), .ref (a 7), .ref (a 8), .int (zk_b pic), .int (nI storm), .int chance])), (a 2, .inr (5, [.ref (a 20), .ref (a 21), .ref (a 22), .int (nI uu.1), .int (nI hide), .ref (a 1), .ref (a 23), .ref (a 24), .int (nI uu.2.1), .int ew, .int (zk_b uu.2.2.1)])), (a 20, .inl (g 0, 7, .inl (fun i => nI (uu.2.2.2.1 i)))), (a 21, .inl (g 0, 7, .inl (fun i => nI (uu.2.2.2.2.1 i)))), (a 22, .inl (g 0, 7, .inl (fun i => nI (uu.2.2.2.2.2.1 i)))), (a 23, .inl (g 2, 3024, .inl uu.2.2.2.2.2.2)), (a 8, .inl (g 4, 6, .inr (.inr (.inr (.inr sf))))), (so, .inr (4, [.ref si, .int sort, .int (nI len), .int rel])), (si, .inl (g 1, 60, .inr (.inl It)))]) := by
  refine zk_of (Qc := fun A => va_Qi (fun (r : Int32) (uu : Nat × Nat × Bool × (Nat → Nat) × (Nat → Nat) × (Nat → Nat) × (Nat → Int32)) => (r = zh_wsA It len n x i9 nn sort rel) ∧ ((uu.1, uu.2.1, uu.2.2.1, uu.2.2.2.1, uu.2.2.2.2.1, uu.2.2.2.2.2.1, uu.2.2.2.2.2.2) = (n + (zh_wsC It len n x i9 nn sort rel), ver + (zh_wsC It len n x i9 nn sort rel), (if (zh_wsC It len n x i9 nn sort rel) = 0 then ek else false), zh_ad It P n (i9.toInt.toNat) 0 (zh_wsC It len n x i9 nn sort rel), zh_ad It S n (i9.toInt.toNat) 1 (zh_wsC It len n x i9 nn sort rel), zh_ad It Q n (i9.toInt.toNat) 2 (zh_wsC It len n x i9 nn sort rel), zh_cl T n (zh_wsC It len n x i9 nn sort rel)))) (zk_B D g A (fun (uu : Nat × Nat × Bool × (Nat → Nat) × (Nat → Nat) × (Nat → Nat) × (Nat → Int32)) => [(a 0, .inr (7, [.ref (a 1), .ref (a 2), .ref (a 3), .ref (a 4), .ref (a 50), .ref (a 60), .ref (a 7), .ref (a 8), .int (zk_b pic), .int (nI storm), .int chance])), (a 2, .inr (5, [.ref (a 20), .ref (a 21), .ref (a 22), .int (nI uu.1), .int (nI hide), .ref (a 1), .ref (a 23), .ref (a 24), .int (nI uu.2.1), .int ew, .int (zk_b uu.2.2.1)])), (a 20, .inl (g 0, 7, .inl (fun i => nI (uu.2.2.2.1 i)))), (a 21, .inl (g 0, 7, .inl (fun i => nI (uu.2.2.2.2.1 i)))), (a 22, .inl (g 0, 7, .inl (fun i => nI (uu.2.2.2.2.2.1 i)))), (a 23, .inl (g 2, 3024, .inl uu.2.2.2.2.2.2)), (a 8, .inl (g 4, 6, .inr (.inr (.inr (.inr sf))))), (so, .inr (4, [.ref si, .int sort, .int (nI len), .int rel])), (si, .inl (g 1, 60, .inr (.inl It)))])) A) (cc := cX7_worlds) (maxL := 10) (ret := (some .int)) (own := RX7) (by decide) rfl rfl (Nat.le_of_ble_eq_true rfl) ?_
  intro pP eE sS mM args below meth cC aA ls qQ Z hR_ hlk hnm hK hT hA hQ G hl
  have hinX4 : ∀ w ∈ u_ws RX4 TX4 4, w ∈ wsX7_worlds := (fun _ h => List.mem_cons_of_mem _ (List.mem_append_right _ h))
  have hinX5 : ∀ w ∈ u_ws RX5 TX5 11, w ∈ wsX7_worlds := (fun _ h => List.mem_cons_of_mem _ (List.mem_append_left _ (List.mem_append_right _ h)))
  have hinX7 : ∀ w ∈ u_ws RX7 TX7 11, w ∈ wsX7_worlds := (fun _ h => List.mem_cons_of_mem _ (List.mem_append_left _ (List.mem_append_left _ (List.mem_append_right _ h))))
  refine lv_iload_n Z.1 Z.2.1 dX7_worlds_0 rfl (lv_at hl 1 rfl) ?_
  refine zk_ci (WF := fun (_ : Unit) => [(a 0, .inr (7, [.ref (a 1), .ref (a 2), .ref (a 3), .ref (a 4), .ref (a 50), .ref (a 60), .ref (a 7), .ref (a 8), .int (zk_b pic), .int (nI storm), .int chance])), (a 2, .inr (5, [.ref (a 20), .ref (a 21), .ref (a 22), .int (nI n), .int (nI hide), .ref (a 1), .ref (a 23), .ref (a 24), .int (nI ver), .int ew, .int (zk_b ek)])), (a 20, .inl (g 0, 7, .inl (fun i => nI (P i)))), (a 21, .inl (g 0, 7, .inl (fun i => nI (S i)))), (a 22, .inl (g 0, 7, .inl (fun i => nI (Q i)))), (a 23, .inl (g 2, 3024, .inl T)), (a 8, .inl (g 4, 6, .inr (.inr (.inr (.inr sf))))), (so, .inr (4, [.ref si, .int sort, .int (nI len), .int rel])), (si, .inl (g 1, 60, .inr (.inl It)))]) (wr := [(a 0, .inr (7, [.ref (a 1), .ref (a 2), .ref (a 3), .ref (a 4), .ref (a 50), .ref (a 60), .ref (a 7), .ref (a 8), .int (zk_b pic), .int (nI storm), .int chance])), (a 2, .inr (5, [.ref (a 20), .ref (a 21), .ref (a 22), .int (nI n), .int (nI hide), .ref (a 1), .ref (a 23), .ref (a 24), .int (nI ver), .int ew, .int (zk_b ek)])), (a 20, .inl (g 0, 7, .inl (fun i => nI (P i)))), (a 21, .inl (g 0, 7, .inl (fun i => nI (S i)))), (a 22, .inl (g 0, 7, .inl (fun i => nI (Q i)))), (a 23, .inl (g 2, 3024, .inl T)), (a 8, .inl (g 4, 6, .inr (.inr (.inr (.inr sf))))), (so, .inr (4, [.ref si, .int sort, .int (nI len), .int rel])), (si, .inl (g 1, 60, .inr (.inl It)))]) ⟨rfl, rfl⟩ (zk_rs (As := [.int x]) (rest := []) Z ((ct_X7_isShelf l D g τ x ) sS.heap.size) hK hT hA G [] rfl (by decide) gX7_worlds_X7_isShelf rfl dvX7_isShelf ⟨by decide, by decide⟩ rfl hl.1 rfl (Nat.le_of_ble_eq_true rfl) dX7_worlds_1 ⟨Nat.zero_le _, Nat.zero_le _⟩) hA G [] [0, 1, 2, 3, 4, 5, 6, 7, 8] [0, 1, 2, 3, 4, 5, 6, 7, 8] rfl rfl (by decide) (by decide) (by decide) (fun _ => rfl) (fun r_1 _ H locs w_1 G => ?_)
  obtain rfl : r_1 = zk_b (zb_w 6 x) := w_1
  refine lv_if_eq (tgt := 18) Z.1 Z.2.1 dX7_worlds_4 (by decide) (fun c4 => ?_) (fun c4 => ?_)
  · have c4 : (zb_w 6 x) = false := zk_b0.mp c4
    refine lv_iconst (v := (-1)) Z.1 Z.2.1 dX7_worlds_18 (by decide +kernel) ?_
    have hO : zh_wsOk (x) (nn) = false := by unfold zh_wsOk; rw [c4]; simp
    have hC : zh_wsC It len n (x) (i9) (nn) sort rel = 0 := by unfold zh_wsC zh_wsGo; rw [hO]; rfl
    exact zk_reti Z hR_ hlk hK hQ G (n, ver, ek, P, S, Q, T) ⟨(by unfold zh_wsA; rw [hO]; rfl), (by rw [hC]; rfl)⟩ rfl dX7_worlds_19
  have c4 : (zb_w 6 x) = true := zk_b1.mp c4
  have c4_0 := c4
  obtain ⟨d, hd, rfl, hd2⟩ := zb_w_ex c4
  have hsd : sf d = some so := by have h9 := hsf c4_0; rw [zb_nat hd] at h9; exact h9
  refine lv_iload_n Z.1 Z.2.1 dX7_worlds_7 rfl (lv_at hl 3 rfl) ?_
  refine lv_iconst (v := nI 1) Z.1 Z.2.1 dX7_worlds_8 (by decide +kernel) ?_
  refine lv_icmp_lt (tgt := 18) Z.1 Z.2.1 dX7_worlds_9 (by decide) (fun c9 => ?_) (fun c9 => ?_)
  · have c9 : nn < 1 := c9
    refine lv_iconst (v := (-1)) Z.1 Z.2.1 dX7_worlds_18 (by decide +kernel) ?_
    have hO : zh_wsOk (nI d) (nn) = false := by unfold zh_wsOk; rw [decide_eq_false (fun q9 : ¬ nn < 1 => q9 c9)]; simp
    have hC : zh_wsC It len n (nI d) (i9) (nn) sort rel = 0 := by unfold zh_wsC zh_wsGo; rw [hO]; rfl
    exact zk_reti Z hR_ hlk hK hQ G (n, ver, ek, P, S, Q, T) ⟨(by unfold zh_wsA; rw [hO]; rfl), (by rw [hC]; rfl)⟩ rfl dX7_worlds_19
  have c9 : ¬ nn < 1 := c9
  have c9_0 := c9
  obtain ⟨m, hm, rfl⟩ := nI_of (zb_n1 c9)
  have c9n : 1 ≤ m := zk_nlt (b := 1) hm (by decide) c9
  refine lv_iload_n Z.1 Z.2.1 dX7_worlds_12 rfl (lv_at hl 3 rfl) ?_
  refine lv_bipush (v := nI 6) Z.1 Z.2.1 dX7_worlds_13 (by decide +kernel) ?_
  refine lv_icmp_le (tgt := 20) Z.1 Z.2.1 dX7_worlds_15 (by decide) (fun c15 => ?_) (fun c15 => ?_)
  · have c15 : nI m ≤ 6 := c15
    have hm6 : m ≤ 6 := zk_le (b := 6) hm (by decide) c15
    refine lv_aload_n Z.1 Z.2.1 dX7_worlds_20 rfl (lv_at hl 0 rfl) ?_
    refine zk_get (C := RX7) (T := TX7) (N := 11) (ci := 7) Z hK G hinX7 0 rfl rfl 7 (by decide) (List.mem_of_getElem? (i := 1) rfl) rfl (v := .ref (a 8)) rfl dX7_worlds_21 ?_
    refine lv_iload_n Z.1 Z.2.1 dX7_worlds_24 rfl (lv_at hl 1 rfl) ?_
    refine zk_qald Z hK G 6 rfl (k := d) (by omega) (by decide) (v := so) hsd dX7_worlds_25 ?_
    refine lv_astore (lv' := [(4, .ref so), (0, .ref (a 0)), (1, .int (nI d)), (2, .int i9), (3, .int (nI m))]) Z.1 Z.2.1 dX7_worlds_26 hl (by decide) rfl (fun ls hl => ?_)
    refine lv_aload Z.1 Z.2.1 dX7_worlds_28 (lv_at hl 0 rfl) ?_
    refine zk_ci (WF := fun (_ : Unit) => [(a 0, .inr (7, [.ref (a 1), .ref (a 2), .ref (a 3), .ref (a 4), .ref (a 50), .ref (a 60), .ref (a 7), .ref (a 8), .int (zk_b pic), .int (nI storm), .int chance])), (a 2, .inr (5, [.ref (a 20), .ref (a 21), .ref (a 22), .int (nI n), .int (nI hide), .ref (a 1), .ref (a 23), .ref (a 24), .int (nI ver), .int ew, .int (zk_b ek)])), (a 20, .inl (g 0, 7, .inl (fun i => nI (P i)))), (a 21, .inl (g 0, 7, .inl (fun i => nI (S i)))), (a 22, .inl (g 0, 7, .inl (fun i => nI (Q i)))), (a 23, .inl (g 2, 3024, .inl T)), (a 8, .inl (g 4, 6, .inr (.inr (.inr (.inr sf))))), (so, .inr (4, [.ref si, .int sort, .int (nI len), .int rel])), (si, .inl (g 1, 60, .inr (.inl It)))]) (wr := [(a 0, .inr (7, [.ref (a 1), .ref (a 2), .ref (a 3), .ref (a 4), .ref (a 50), .ref (a 60), .ref (a 7), .ref (a 8), .int (zk_b pic), .int (nI storm), .int chance])), (a 2, .inr (5, [.ref (a 20), .ref (a 21), .ref (a 22), .int (nI n), .int (nI hide), .ref (a 1), .ref (a 23), .ref (a 24), .int (nI ver), .int ew, .int (zk_b ek)])), (a 20, .inl (g 0, 7, .inl (fun i => nI (P i)))), (a 21, .inl (g 0, 7, .inl (fun i => nI (S i)))), (a 22, .inl (g 0, 7, .inl (fun i => nI (Q i)))), (a 23, .inl (g 2, 3024, .inl T)), (a 8, .inl (g 4, 6, .inr (.inr (.inr (.inr sf))))), (si, .inl (g 1, 60, .inr (.inl It)))]) ⟨rfl, rfl⟩ (zk_rv (As := []) (rest := []) (q0 := 7) (ci := 4) Z ((ct_X4_holdsNothing l D g τ so si sort len rel ) H.size) hK hT hA G [7] rfl (by decide) rfl rfl gX7_worlds_X4_holdsNothing rfl dvX4_holdsNothing ⟨by decide, by decide⟩ rfl hl.1 rfl (Nat.le_of_ble_eq_true rfl) dX7_worlds_30 ⟨Nat.zero_le _, Nat.zero_le _⟩) hA G [7] [0, 1, 2, 3, 4, 5, 6, 8] [0, 1, 2, 3, 4, 5, 6, 8, 7] rfl rfl (by decide) (by decide) (by decide) (fun _ => rfl) (fun r_30 _ H locs w_30 G => ?_)
    obtain rfl : r_30 = zk_b (zh_non sort rel) := w_30
    refine lv_if_eq (tgt := 38) Z.1 Z.2.1 dX7_worlds_33 (by decide) (fun c33 => ?_) (fun c33 => ?_)
    · have c33 : (zh_non sort rel) = false := zk_b0.mp c33
      refine lv_aload Z.1 Z.2.1 dX7_worlds_38 (lv_at hl 0 rfl) ?_
      refine lv_iconst (v := nI 0) Z.1 Z.2.1 dX7_worlds_40 (by decide +kernel) ?_
      refine zk_ci (WF := fun (_ : Unit) => [(a 0, .inr (7, [.ref (a 1), .ref (a 2), .ref (a 3), .ref (a 4), .ref (a 50), .ref (a 60), .ref (a 7), .ref (a 8), .int (zk_b pic), .int (nI storm), .int chance])), (a 2, .inr (5, [.ref (a 20), .ref (a 21), .ref (a 22), .int (nI n), .int (nI hide), .ref (a 1), .ref (a 23), .ref (a 24), .int (nI ver), .int ew, .int (zk_b ek)])), (a 20, .inl (g 0, 7, .inl (fun i => nI (P i)))), (a 21, .inl (g 0, 7, .inl (fun i => nI (S i)))), (a 22, .inl (g 0, 7, .inl (fun i => nI (Q i)))), (a 23, .inl (g 2, 3024, .inl T)), (a 8, .inl (g 4, 6, .inr (.inr (.inr (.inr sf))))), (so, .inr (4, [.ref si, .int sort, .int (nI len), .int rel])), (si, .inl (g 1, 60, .inr (.inl It)))]) (wr := [(a 0, .inr (7, [.ref (a 1), .ref (a 2), .ref (a 3), .ref (a 4), .ref (a 50), .ref (a 60), .ref (a 7), .ref (a 8), .int (zk_b pic), .int (nI storm), .int chance])), (a 2, .inr (5, [.ref (a 20), .ref (a 21), .ref (a 22), .int (nI n), .int (nI hide), .ref (a 1), .ref (a 23), .ref (a 24), .int (nI ver), .int ew, .int (zk_b ek)])), (a 20, .inl (g 0, 7, .inl (fun i => nI (P i)))), (a 21, .inl (g 0, 7, .inl (fun i => nI (S i)))), (a 22, .inl (g 0, 7, .inl (fun i => nI (Q i)))), (a 23, .inl (g 2, 3024, .inl T)), (a 8, .inl (g 4, 6, .inr (.inr (.inr (.inr sf))))), (si, .inl (g 1, 60, .inr (.inl It)))]) ⟨rfl, rfl⟩ (zk_rv (As := [.int (nI 0)]) (rest := []) (q0 := 7) (ci := 4) Z ((ct_X4_holdsRowOf l D g τ so si sort len rel (nI 0) ) H.size) hK hT hA G [7] rfl (by decide) rfl rfl gX7_worlds_X4_holdsRowOf rfl dvX4_holdsRowOf ⟨by decide, by decide⟩ rfl hl.1 rfl (Nat.le_of_ble_eq_true rfl) dX7_worlds_41 ⟨Nat.zero_le _, Nat.zero_le _⟩) hA G [7] [0, 1, 2, 3, 4, 5, 6, 8] [0, 1, 2, 3, 4, 5, 6, 8, 7] rfl rfl (by decide) (by decide) (by decide) (fun _ => rfl) (fun r_41 _ H locs w_41 G => ?_)
      obtain rfl : r_41 = zk_b (decide (¬ sort < 0) && decide (sort = (nI 0))) := w_41
      refine lv_if_ne (tgt := 50) Z.1 Z.2.1 dX7_worlds_44 (by decide) (fun c44 => ?_) (fun c44 => ?_)
      · have c44 : (decide (¬ sort < 0) && decide (sort = (nI 0))) = true := zk_b1.mp c44
        by_cases hi9 : i9 < 0
        · have hpn := zh_pl_neg (len := len) (y := nI 3) hi9
          refine lv_iconst (v := nI 0) Z.1 Z.2.1 dX7_worlds_50 (by decide +kernel) ?_
          refine lv_istore (lv' := [(5, .int (nI 0)), (4, .ref so), (0, .ref (a 0)), (1, .int (nI d)), (2, .int i9), (3, .int (nI m))]) Z.1 Z.2.1 dX7_worlds_51 hl (by decide) rfl (fun ls hl => ?_)
          refine lv_iload_n Z.1 Z.2.1 dX7_worlds_53 rfl (lv_at hl 4 rfl) ?_
          refine lv_istore (lv' := [(6, .int i9), (5, .int (nI 0)), (4, .ref so), (0, .ref (a 0)), (1, .int (nI d)), (2, .int i9), (3, .int (nI m))]) Z.1 Z.2.1 dX7_worlds_54 hl (by decide) rfl (fun ls hl => ?_)
          refine lv_iload Z.1 Z.2.1 dX7_worlds_56 (lv_at hl 1 rfl) ?_
          refine lv_iload_n Z.1 Z.2.1 dX7_worlds_58 rfl (lv_at hl 6 rfl) ?_
          refine lv_icmp_ge (tgt := 160) Z.1 Z.2.1 dX7_worlds_59 (by decide) (fun c59 => ?_) (fun c59 => ?_)
          · exfalso
            have c59 : m ≤ 0 := zk_le (by omega) (by omega) c59
            omega
          have c59 : 0 < m := zk_nle (by omega) (by omega) c59
          refine lv_aload Z.1 Z.2.1 dX7_worlds_62 (lv_at hl 2 rfl) ?_
          refine lv_iload Z.1 Z.2.1 dX7_worlds_64 (lv_at hl 0 rfl) ?_
          refine lv_iconst (v := nI 3) Z.1 Z.2.1 dX7_worlds_66 (by decide +kernel) ?_
          refine zk_ci (WF := fun (_ : Unit) => [(a 0, .inr (7, [.ref (a 1), .ref (a 2), .ref (a 3), .ref (a 4), .ref (a 50), .ref (a 60), .ref (a 7), .ref (a 8), .int (zk_b pic), .int (nI storm), .int chance])), (a 2, .inr (5, [.ref (a 20), .ref (a 21), .ref (a 22), .int (nI n), .int (nI hide), .ref (a 1), .ref (a 23), .ref (a 24), .int (nI ver), .int ew, .int (zk_b ek)])), (a 20, .inl (g 0, 7, .inl (fun i => nI (P i)))), (a 21, .inl (g 0, 7, .inl (fun i => nI (S i)))), (a 22, .inl (g 0, 7, .inl (fun i => nI (Q i)))), (a 23, .inl (g 2, 3024, .inl T)), (a 8, .inl (g 4, 6, .inr (.inr (.inr (.inr sf))))), (so, .inr (4, [.ref si, .int sort, .int (nI len), .int rel])), (si, .inl (g 1, 60, .inr (.inl It)))]) (wr := [(a 0, .inr (7, [.ref (a 1), .ref (a 2), .ref (a 3), .ref (a 4), .ref (a 50), .ref (a 60), .ref (a 7), .ref (a 8), .int (zk_b pic), .int (nI storm), .int chance])), (a 2, .inr (5, [.ref (a 20), .ref (a 21), .ref (a 22), .int (nI n), .int (nI hide), .ref (a 1), .ref (a 23), .ref (a 24), .int (nI ver), .int ew, .int (zk_b ek)])), (a 20, .inl (g 0, 7, .inl (fun i => nI (P i)))), (a 21, .inl (g 0, 7, .inl (fun i => nI (S i)))), (a 22, .inl (g 0, 7, .inl (fun i => nI (Q i)))), (a 23, .inl (g 2, 3024, .inl T)), (a 8, .inl (g 4, 6, .inr (.inr (.inr (.inr sf))))), (si, .inl (g 1, 60, .inr (.inl It)))]) ⟨rfl, rfl⟩ (zk_rv (As := [.int i9, .int (nI 3)]) (rest := []) (q0 := 7) (ci := 4) Z ((ct_X4_hasPlaces l D g τ so si sort len rel i9 (nI 3) ) H.size) hK hT hA G [7] rfl (by decide) rfl rfl gX7_worlds_X4_hasPlaces rfl dvX4_hasPlaces ⟨by decide, by decide⟩ rfl hl.1 rfl (Nat.le_of_ble_eq_true rfl) dX7_worlds_67 ⟨Nat.zero_le _, Nat.zero_le _⟩) hA G [7] [0, 1, 2, 3, 4, 5, 6, 8] [0, 1, 2, 3, 4, 5, 6, 8, 7] rfl rfl (by decide) (by decide) (by decide) (fun _ => rfl) (fun r_67 _ H locs w_67 G => ?_)
          obtain rfl : r_67 = zk_b (zh_pl len i9 (nI 3)) := w_67
          refine lv_if_eq (tgt := 160) Z.1 Z.2.1 dX7_worlds_70 (by decide) (fun c70 => ?_) (fun c70 => ?_)
          · have c70 : (zh_pl len i9 (nI 3)) = false := zk_b0.mp c70
            refine lv_iload Z.1 Z.2.1 dX7_worlds_160 (lv_at hl 1 rfl) ?_
            have hC : zh_wsC It len n (nI d) (i9) (nI m) sort rel = 0 := by unfold zh_wsC; split <;> simp [hi9]
            exact zk_reti Z hR_ hlk hK hQ G (n, ver, ek, P, S, Q, T) ⟨(by unfold zh_wsA zh_wsOk; rw [c4_0, decide_eq_true c9_0, decide_eq_true c15, if_pos (by rfl), c33, if_neg (by decide), if_pos c44, hC]), (by rw [hC]; rfl)⟩ rfl dX7_worlds_162
          exfalso
          have c70 : (zh_pl len i9 (nI 3)) = true := zk_b1.mp c70
          exact absurd (hpn.symm.trans c70) (by decide)
        obtain ⟨k, hk, rfl⟩ := nI_of hi9
        obtain ⟨V, hV⟩ : ∃ V, V = zh_cw It len m n k := ⟨_, rfl⟩
        refine lv_iconst (v := nI 0) Z.1 Z.2.1 dX7_worlds_50 (by decide +kernel) ?_
        refine lv_istore (lv' := [(5, .int (nI 0)), (4, .ref so), (0, .ref (a 0)), (1, .int (nI d)), (2, .int (nI k)), (3, .int (nI m))]) Z.1 Z.2.1 dX7_worlds_51 hl (by decide) rfl (fun ls hl => ?_)
        refine lv_iload_n Z.1 Z.2.1 dX7_worlds_53 rfl (lv_at hl 4 rfl) ?_
        refine lv_istore (lv' := [(6, .int (nI k)), (5, .int (nI 0)), (4, .ref so), (0, .ref (a 0)), (1, .int (nI d)), (2, .int (nI k)), (3, .int (nI m))]) Z.1 Z.2.1 dX7_worlds_54 hl (by decide) rfl (fun ls hl => ?_)
        have L56 : ∀ (nN : Nat) (c : Nat) (f : Nat), f < nN → (c + f = m) → (k + 3 * c < 2 ^ 31) → (n + c ≤ 6) → (zh_cw It len f (n + c) (k + 3 * c) + c = V) → ∀ (H : Heap) (locs : List Loc) (ls : Array Slot), zk_G D aA [(a 0, .inr (7, [.ref (a 1), .ref (a 2), .ref (a 3), .ref (a 4), .ref (a 50), .ref (a 60), .ref (a 7), .ref (a 8), .int (zk_b pic), .int (nI storm), .int chance])), (a 2, .inr (5, [.ref (a 20), .ref (a 21), .ref (a 22), .int (nI (n + c)), .int (nI hide), .ref (a 1), .ref (a 23), .ref (a 24), .int (nI (ver + c)), .int ew, .int (zk_b (if c = 0 then ek else false))])), (a 20, .inl (g 0, 7, .inl (fun i => nI (zh_ad It P n k 0 c i)))), (a 21, .inl (g 0, 7, .inl (fun i => nI (zh_ad It S n k 1 c i)))), (a 22, .inl (g 0, 7, .inl (fun i => nI (zh_ad It Q n k 2 c i)))), (a 23, .inl (g 2, 3024, .inl (zh_cl T n c))), (a 8, .inl (g 4, 6, .inr (.inr (.inr (.inr sf))))), (so, .inr (4, [.ref si, .int sort, .int (nI len), .int rel])), (si, .inl (g 1, 60, .inr (.inl It)))] sS H locs → lv_has ls 10 [(0, .ref (a 0)), (3, .int (nI m)), (4, .ref so), (5, .int (nI c)), (6, .int (nI (k + 3 * c)))] → W pP l eE rm_X7_worlds sS mM args below meth cC H locs 0 0 qQ (F0 mM 56 ls []) := by
          intro nN
          induction nN with
          | zero => intros; omega
          | succ nN ih56 =>
            intro c f hμ hcf hk3 hc6 hs H locs ls G hl
            refine lv_iload Z.1 Z.2.1 dX7_worlds_56 (lv_at hl 3 rfl) ?_
            refine lv_iload_n Z.1 Z.2.1 dX7_worlds_58 rfl (lv_at hl 1 rfl) ?_
            refine lv_icmp_ge (tgt := 160) Z.1 Z.2.1 dX7_worlds_59 (by decide) (fun c59 => ?_) (fun c59 => ?_)
            · have c59 : m ≤ c := zk_le (by omega) (by omega) c59
              refine lv_iload Z.1 Z.2.1 dX7_worlds_160 (lv_at hl 3 rfl) ?_
              have hN : zh_cw It len f (n + c) (k + 3 * c) = 0 := by rw [show f = 0 by omega]; rfl
              have hgo : zh_wsGo (nI d) (nI m) sort rel = true := by unfold zh_wsGo zh_wsOk; rw [c4_0, decide_eq_true c9_0, decide_eq_true c15, c33, c44]; rfl
              have hC : zh_wsC It len n (nI d) (nI k) (nI m) sort rel = c := by unfold zh_wsC; rw [if_pos hgo, if_neg hi9, zb_nat hm, zb_nat hk, ← hV, ← hs, hN, Nat.zero_add]
              exact zk_reti Z hR_ hlk hK hQ G (n + c, ver + c, (if c = 0 then ek else false), zh_ad It P n k 0 c, zh_ad It S n k 1 c, zh_ad It Q n k 2 c, zh_cl T n c) ⟨(by unfold zh_wsA zh_wsOk; rw [c4_0, decide_eq_true c9_0, decide_eq_true c15, if_pos (by rfl), c33, if_neg (by decide), if_pos c44, hC]), (by rw [hC, zb_nat hk])⟩ rfl dX7_worlds_162
            have c59 : c < m := zk_nle (by omega) (by omega) c59
            obtain ⟨f9, rfl⟩ : ∃ f9, f = f9 + 1 := ⟨f - 1, by omega⟩
            refine lv_aload Z.1 Z.2.1 dX7_worlds_62 (lv_at hl 2 rfl) ?_
            refine lv_iload Z.1 Z.2.1 dX7_worlds_64 (lv_at hl 4 rfl) ?_
            refine lv_iconst (v := nI 3) Z.1 Z.2.1 dX7_worlds_66 (by decide +kernel) ?_
            refine zk_ci (WF := fun (_ : Unit) => [(a 0, .inr (7, [.ref (a 1), .ref (a 2), .ref (a 3), .ref (a 4), .ref (a 50), .ref (a 60), .ref (a 7), .ref (a 8), .int (zk_b pic), .int (nI storm), .int chance])), (a 2, .inr (5, [.ref (a 20), .ref (a 21), .ref (a 22), .int (nI (n + c)), .int (nI hide), .ref (a 1), .ref (a 23), .ref (a 24), .int (nI (ver + c)), .int ew, .int (zk_b (if c = 0 then ek else false))])), (a 20, .inl (g 0, 7, .inl (fun i => nI (zh_ad It P n k 0 c i)))), (a 21, .inl (g 0, 7, .inl (fun i => nI (zh_ad It S n k 1 c i)))), (a 22, .inl (g 0, 7, .inl (fun i => nI (zh_ad It Q n k 2 c i)))), (a 23, .inl (g 2, 3024, .inl (zh_cl T n c))), (a 8, .inl (g 4, 6, .inr (.inr (.inr (.inr sf))))), (so, .inr (4, [.ref si, .int sort, .int (nI len), .int rel])), (si, .inl (g 1, 60, .inr (.inl It)))]) (wr := [(a 0, .inr (7, [.ref (a 1), .ref (a 2), .ref (a 3), .ref (a 4), .ref (a 50), .ref (a 60), .ref (a 7), .ref (a 8), .int (zk_b pic), .int (nI storm), .int chance])), (a 2, .inr (5, [.ref (a 20), .ref (a 21), .ref (a 22), .int (nI (n + c)), .int (nI hide), .ref (a 1), .ref (a 23), .ref (a 24), .int (nI (ver + c)), .int ew, .int (zk_b (if c = 0 then ek else false))])), (a 20, .inl (g 0, 7, .inl (fun i => nI (zh_ad It P n k 0 c i)))), (a 21, .inl (g 0, 7, .inl (fun i => nI (zh_ad It S n k 1 c i)))), (a 22, .inl (g 0, 7, .inl (fun i => nI (zh_ad It Q n k 2 c i)))), (a 23, .inl (g 2, 3024, .inl (zh_cl T n c))), (a 8, .inl (g 4, 6, .inr (.inr (.inr (.inr sf))))), (si, .inl (g 1, 60, .inr (.inl It)))]) ⟨rfl, rfl⟩ (zk_rv (As := [.int (nI (k + 3 * c)), .int (nI 3)]) (rest := []) (q0 := 7) (ci := 4) Z ((ct_X4_hasPlaces l D g τ so si sort len rel (nI (k + 3 * c)) (nI 3) ) H.size) hK hT hA G [7] rfl (by decide) rfl rfl gX7_worlds_X4_hasPlaces rfl dvX4_hasPlaces ⟨by decide, by decide⟩ rfl hl.1 rfl (Nat.le_of_ble_eq_true rfl) dX7_worlds_67 ⟨Nat.zero_le _, Nat.zero_le _⟩) hA G [7] [0, 1, 2, 3, 4, 5, 6, 8] [0, 1, 2, 3, 4, 5, 6, 8, 7] rfl rfl (by decide) (by decide) (by decide) (fun _ => rfl) (fun r_67 _ H locs w_67 G => ?_)
            obtain rfl : r_67 = zk_b (zh_pl len (nI (k + 3 * c)) (nI 3)) := w_67
            refine lv_if_eq (tgt := 160) Z.1 Z.2.1 dX7_worlds_70 (by decide) (fun c70 => ?_) (fun c70 => ?_)
            · have c70 : (zh_pl len (nI (k + 3 * c)) (nI 3)) = false := zk_b0.mp c70
              have c70 : ¬ k + 3 * c + 3 ≤ len := fun q9 => absurd (c70.symm.trans ((zh_pl3n hlen hk3).trans (decide_eq_true q9))) (by decide)
              refine lv_iload Z.1 Z.2.1 dX7_worlds_160 (lv_at hl 3 rfl) ?_
              have hN : zh_cw It len (f9 + 1) (n + c) (k + 3 * c) = 0 := zh_cw_n (fun q9 => by omega)
              have hgo : zh_wsGo (nI d) (nI m) sort rel = true := by unfold zh_wsGo zh_wsOk; rw [c4_0, decide_eq_true c9_0, decide_eq_true c15, c33, c44]; rfl
              have hC : zh_wsC It len n (nI d) (nI k) (nI m) sort rel = c := by unfold zh_wsC; rw [if_pos hgo, if_neg hi9, zb_nat hm, zb_nat hk, ← hV, ← hs, hN, Nat.zero_add]
              exact zk_reti Z hR_ hlk hK hQ G (n + c, ver + c, (if c = 0 then ek else false), zh_ad It P n k 0 c, zh_ad It S n k 1 c, zh_ad It Q n k 2 c, zh_cl T n c) ⟨(by unfold zh_wsA zh_wsOk; rw [c4_0, decide_eq_true c9_0, decide_eq_true c15, if_pos (by rfl), c33, if_neg (by decide), if_pos c44, hC]), (by rw [hC, zb_nat hk])⟩ rfl dX7_worlds_162
            have c70 : (zh_pl len (nI (k + 3 * c)) (nI 3)) = true := zk_b1.mp c70
            have c70 : k + 3 * c + 3 ≤ len := by rw [zh_pl3n hlen hk3] at c70; exact of_decide_eq_true c70
            refine lv_aload_n Z.1 Z.2.1 dX7_worlds_73 rfl (lv_at hl 0 rfl) ?_
            refine zk_get (C := RX7) (T := TX7) (N := 11) (ci := 7) Z hK G hinX7 0 rfl rfl 1 (by decide) (List.mem_of_getElem? (i := 2) rfl) rfl (v := .ref (a 2)) rfl dX7_worlds_74 ?_
            refine zk_get (C := RX5) (T := TX5) (N := 11) (ci := 5) Z hK G hinX5 1 rfl rfl 3 (by decide) (List.mem_of_getElem? (i := 3) rfl) rfl (v := .int (nI (n + c))) rfl dX7_worlds_77 ?_
            refine lv_bipush (v := nI 6) Z.1 Z.2.1 dX7_worlds_80 (by decide +kernel) ?_
            refine lv_icmp_ge (tgt := 160) Z.1 Z.2.1 dX7_worlds_82 (by decide) (fun c82 => ?_) (fun c82 => ?_)
            · have c82 : 6 ≤ n + c := zk_le (by omega) (by omega) c82
              refine lv_iload Z.1 Z.2.1 dX7_worlds_160 (lv_at hl 3 rfl) ?_
              have hN : zh_cw It len (f9 + 1) (n + c) (k + 3 * c) = 0 := zh_cw_n (fun q9 => by omega)
              have hgo : zh_wsGo (nI d) (nI m) sort rel = true := by unfold zh_wsGo zh_wsOk; rw [c4_0, decide_eq_true c9_0, decide_eq_true c15, c33, c44]; rfl
              have hC : zh_wsC It len n (nI d) (nI k) (nI m) sort rel = c := by unfold zh_wsC; rw [if_pos hgo, if_neg hi9, zb_nat hm, zb_nat hk, ← hV, ← hs, hN, Nat.zero_add]
              exact zk_reti Z hR_ hlk hK hQ G (n + c, ver + c, (if c = 0 then ek else false), zh_ad It P n k 0 c, zh_ad It S n k 1 c, zh_ad It Q n k 2 c, zh_cl T n c) ⟨(by unfold zh_wsA zh_wsOk; rw [c4_0, decide_eq_true c9_0, decide_eq_true c15, if_pos (by rfl), c33, if_neg (by decide), if_pos c44, hC]), (by rw [hC, zb_nat hk])⟩ rfl dX7_worlds_162
            have c82 : n + c < 6 := zk_nle (by omega) (by omega) c82
            refine lv_aload Z.1 Z.2.1 dX7_worlds_85 (lv_at hl 2 rfl) ?_
            refine zk_get (C := RX4) (T := TX4) (N := 4) (ci := 4) Z hK G hinX4 7 rfl rfl 0 (by decide) (List.mem_of_getElem? (i := 4) rfl) rfl (v := .ref si) rfl dX7_worlds_87 ?_
            refine lv_iload Z.1 Z.2.1 dX7_worlds_90 (lv_at hl 4 rfl) ?_
            refine zk_lald Z hK G 8 rfl (k := k + 3 * c) (by omega) (by decide) (v := It (k + 3 * c)) rfl dX7_worlds_92 ?_
            refine lv_l2i (v := (It (k + 3 * c)).toInt32) Z.1 Z.2.1 dX7_worlds_93 rfl ?_
            refine lv_istore (lv' := [(7, .int ((It (k + 3 * c)).toInt32)), (0, .ref (a 0)), (3, .int (nI m)), (4, .ref so), (5, .int (nI c)), (6, .int (nI (k + 3 * c)))]) Z.1 Z.2.1 dX7_worlds_94 hl (by decide) rfl (fun ls hl => ?_)
            refine lv_aload Z.1 Z.2.1 dX7_worlds_96 (lv_at hl 3 rfl) ?_
            refine zk_get (C := RX4) (T := TX4) (N := 4) (ci := 4) Z hK G hinX4 7 rfl rfl 0 (by decide) (List.mem_of_getElem? (i := 4) rfl) rfl (v := .ref si) rfl dX7_worlds_98 ?_
            refine lv_iload Z.1 Z.2.1 dX7_worlds_101 (lv_at hl 5 rfl) ?_
            refine lv_iconst (v := nI 1) Z.1 Z.2.1 dX7_worlds_103 (by decide +kernel) ?_
            refine zk_iadd Z dX7_worlds_104 (z := nI (k + 3 * c + 1)) (nI_add _ _) ?_
            refine zk_lald Z hK G 8 rfl (k := k + 3 * c + 1) (by omega) (by decide) (v := It (k + 3 * c + 1)) rfl dX7_worlds_105 ?_
            refine lv_l2i (v := (It (k + 3 * c + 1)).toInt32) Z.1 Z.2.1 dX7_worlds_106 rfl ?_
            refine lv_istore (lv' := [(8, .int ((It (k + 3 * c + 1)).toInt32)), (7, .int ((It (k + 3 * c)).toInt32)), (0, .ref (a 0)), (3, .int (nI m)), (4, .ref so), (5, .int (nI c)), (6, .int (nI (k + 3 * c)))]) Z.1 Z.2.1 dX7_worlds_107 hl (by decide) rfl (fun ls hl => ?_)
            refine lv_aload Z.1 Z.2.1 dX7_worlds_109 (lv_at hl 4 rfl) ?_
            refine zk_get (C := RX4) (T := TX4) (N := 4) (ci := 4) Z hK G hinX4 7 rfl rfl 0 (by decide) (List.mem_of_getElem? (i := 4) rfl) rfl (v := .ref si) rfl dX7_worlds_111 ?_
            refine lv_iload Z.1 Z.2.1 dX7_worlds_114 (lv_at hl 6 rfl) ?_
            refine lv_iconst (v := nI 2) Z.1 Z.2.1 dX7_worlds_116 (by decide +kernel) ?_
            refine zk_iadd Z dX7_worlds_117 (z := nI (k + 3 * c + 2)) (nI_add _ _) ?_
            refine zk_lald Z hK G 8 rfl (k := k + 3 * c + 2) (by omega) (by decide) (v := It (k + 3 * c + 2)) rfl dX7_worlds_118 ?_
            refine lv_l2i (v := (It (k + 3 * c + 2)).toInt32) Z.1 Z.2.1 dX7_worlds_119 rfl ?_
            refine lv_istore (lv' := [(9, .int ((It (k + 3 * c + 2)).toInt32)), (8, .int ((It (k + 3 * c + 1)).toInt32)), (7, .int ((It (k + 3 * c)).toInt32)), (0, .ref (a 0)), (3, .int (nI m)), (4, .ref so), (5, .int (nI c)), (6, .int (nI (k + 3 * c)))]) Z.1 Z.2.1 dX7_worlds_120 hl (by decide) rfl (fun ls hl => ?_)
            refine lv_iload Z.1 Z.2.1 dX7_worlds_122 (lv_at hl 2 rfl) ?_
            refine lv_iload Z.1 Z.2.1 dX7_worlds_124 (lv_at hl 1 rfl) ?_
            refine lv_iload Z.1 Z.2.1 dX7_worlds_126 (lv_at hl 0 rfl) ?_
            refine zk_ci (WF := fun (_ : Unit) => [(a 0, .inr (7, [.ref (a 1), .ref (a 2), .ref (a 3), .ref (a 4), .ref (a 50), .ref (a 60), .ref (a 7), .ref (a 8), .int (zk_b pic), .int (nI storm), .int chance])), (a 2, .inr (5, [.ref (a 20), .ref (a 21), .ref (a 22), .int (nI (n + c)), .int (nI hide), .ref (a 1), .ref (a 23), .ref (a 24), .int (nI (ver + c)), .int ew, .int (zk_b (if c = 0 then ek else false))])), (a 20, .inl (g 0, 7, .inl (fun i => nI (zh_ad It P n k 0 c i)))), (a 21, .inl (g 0, 7, .inl (fun i => nI (zh_ad It S n k 1 c i)))), (a 22, .inl (g 0, 7, .inl (fun i => nI (zh_ad It Q n k 2 c i)))), (a 23, .inl (g 2, 3024, .inl (zh_cl T n c))), (a 8, .inl (g 4, 6, .inr (.inr (.inr (.inr sf))))), (so, .inr (4, [.ref si, .int sort, .int (nI len), .int rel])), (si, .inl (g 1, 60, .inr (.inl It)))]) (wr := [(a 0, .inr (7, [.ref (a 1), .ref (a 2), .ref (a 3), .ref (a 4), .ref (a 50), .ref (a 60), .ref (a 7), .ref (a 8), .int (zk_b pic), .int (nI storm), .int chance])), (a 2, .inr (5, [.ref (a 20), .ref (a 21), .ref (a 22), .int (nI (n + c)), .int (nI hide), .ref (a 1), .ref (a 23), .ref (a 24), .int (nI (ver + c)), .int ew, .int (zk_b (if c = 0 then ek else false))])), (a 20, .inl (g 0, 7, .inl (fun i => nI (zh_ad It P n k 0 c i)))), (a 21, .inl (g 0, 7, .inl (fun i => nI (zh_ad It S n k 1 c i)))), (a 22, .inl (g 0, 7, .inl (fun i => nI (zh_ad It Q n k 2 c i)))), (a 23, .inl (g 2, 3024, .inl (zh_cl T n c))), (a 8, .inl (g 4, 6, .inr (.inr (.inr (.inr sf))))), (so, .inr (4, [.ref si, .int sort, .int (nI len), .int rel])), (si, .inl (g 1, 60, .inr (.inl It)))]) ⟨rfl, rfl⟩ (zk_rs (As := [.int ((It (k + 3 * c)).toInt32), .int ((It (k + 3 * c + 1)).toInt32), .int ((It (k + 3 * c + 2)).toInt32)]) (rest := []) Z ((ct_X5_isWorld l D g τ ((It (k + 3 * c)).toInt32) ((It (k + 3 * c + 1)).toInt32) ((It (k + 3 * c + 2)).toInt32) ) H.size) hK hT hA G [] rfl (by decide) gX7_worlds_X5_isWorld rfl dvX5_isWorld ⟨by decide, by decide⟩ rfl hl.1 rfl (Nat.le_of_ble_eq_true rfl) dX7_worlds_128 ⟨Nat.zero_le _, Nat.zero_le _⟩) hA G [] [0, 1, 2, 3, 4, 5, 6, 7, 8] [0, 1, 2, 3, 4, 5, 6, 7, 8] rfl rfl (by decide) (by decide) (by decide) (fun _ => rfl) (fun r_128 _ H locs w_128 G => ?_)
            obtain rfl : r_128 = zk_b (zs_isW ((It (k + 3 * c)).toInt32) ((It (k + 3 * c + 1)).toInt32) ((It (k + 3 * c + 2)).toInt32)) := w_128
            refine lv_if_ne (tgt := 137) Z.1 Z.2.1 dX7_worlds_131 (by decide) (fun c131 => ?_) (fun c131 => ?_)
            · have c131 : (zs_isW ((It (k + 3 * c)).toInt32) ((It (k + 3 * c + 1)).toInt32) ((It (k + 3 * c + 2)).toInt32)) = true := zk_b1.mp c131
              have c131_0 := c131
              obtain ⟨p1, q1, r1, e7, e8, e9, hp1, hp2, hq1, hr1, hr2⟩ := zs_isW_ex c131
              have hl : lv_has ls 10 [(9, .int (nI r1)), (8, .int (nI q1)), (7, .int (nI p1)), (0, .ref (a 0)), (3, .int (nI m)), (4, .ref so), (5, .int (nI c)), (6, .int (nI (k + 3 * c)))] := by rw [← e7, ← e8, ← e9]; exact hl
              refine lv_aload_n Z.1 Z.2.1 dX7_worlds_137 rfl (lv_at hl 3 rfl) ?_
              refine zk_get (C := RX7) (T := TX7) (N := 11) (ci := 7) Z hK G hinX7 0 rfl rfl 1 (by decide) (List.mem_of_getElem? (i := 2) rfl) rfl (v := .ref (a 2)) rfl dX7_worlds_138 ?_
              refine lv_iload Z.1 Z.2.1 dX7_worlds_141 (lv_at hl 2 rfl) ?_
              refine lv_iload Z.1 Z.2.1 dX7_worlds_143 (lv_at hl 1 rfl) ?_
              refine lv_iload Z.1 Z.2.1 dX7_worlds_145 (lv_at hl 0 rfl) ?_
              refine zk_ci (WF := fun (_ : Unit) => [(a 0, .inr (7, [.ref (a 1), .ref (a 2), .ref (a 3), .ref (a 4), .ref (a 50), .ref (a 60), .ref (a 7), .ref (a 8), .int (zk_b pic), .int (nI storm), .int chance])), (a 2, .inr (5, [.ref (a 20), .ref (a 21), .ref (a 22), .int (nI (n + c + 1)), .int (nI hide), .ref (a 1), .ref (a 23), .ref (a 24), .int (nI (ver + c + 1)), .int ew, .int (zk_b false)])), (a 20, .inl (g 0, 7, .inl (fun i => nI (zs_up (zh_ad It P n k 0 c) (n + c) p1 i)))), (a 21, .inl (g 0, 7, .inl (fun i => nI (zs_up (zh_ad It S n k 1 c) (n + c) q1 i)))), (a 22, .inl (g 0, 7, .inl (fun i => nI (zs_up (zh_ad It Q n k 2 c) (n + c) r1 i)))), (a 23, .inl (g 2, 3024, .inl (zs_clw (zh_cl T n c) (n + c) 21))), (a 8, .inl (g 4, 6, .inr (.inr (.inr (.inr sf))))), (so, .inr (4, [.ref si, .int sort, .int (nI len), .int rel])), (si, .inl (g 1, 60, .inr (.inl It)))]) (wr := [(a 0, .inr (7, [.ref (a 1), .ref (a 2), .ref (a 3), .ref (a 4), .ref (a 50), .ref (a 60), .ref (a 7), .ref (a 8), .int (zk_b pic), .int (nI storm), .int chance])), (a 8, .inl (g 4, 6, .inr (.inr (.inr (.inr sf))))), (so, .inr (4, [.ref si, .int sort, .int (nI len), .int rel])), (si, .inl (g 1, 60, .inr (.inl It)))]) ⟨rfl, rfl⟩ (zk_rv (As := [.int (nI p1), .int (nI q1), .int (nI r1)]) (rest := []) (q0 := 1) (ci := 5) Z ((ct_X5_add l D g τ a (n + c) hide (ver + c) ew (if c = 0 then ek else false) (zh_ad It P n k 0 c) (zh_ad It S n k 1 c) (zh_ad It Q n k 2 c) (zh_cl T n c) p1 q1 r1 (by omega)) H.size) hK hT hA G [1, 2, 3, 4, 5] rfl (by decide) rfl rfl gX7_worlds_X5_add rfl dvX5_add ⟨by decide, by decide⟩ rfl hl.1 rfl (Nat.le_of_ble_eq_true rfl) dX7_worlds_147 ⟨Nat.zero_le _, Nat.zero_le _⟩) hA G [1, 2, 3, 4, 5] [0, 6, 7, 8] [0, 4, 5, 6, 7, 8, 1, 2, 3] rfl rfl (by decide) (by decide) (by decide) (fun _ => rfl) (fun r_147 _ H locs w_147 G => ?_)
              obtain rfl : r_147 = nI (n + c) := w_147
              have eP9 : zh_ad It P n k 0 (c + 1) = zs_up (zh_ad It P n k 0 c) (n + c) p1 := by simp only [zh_ad]; rw [Nat.add_zero, e7, zb_nat (by omega)]
              have eS9 : zh_ad It S n k 1 (c + 1) = zs_up (zh_ad It S n k 1 c) (n + c) q1 := by simp only [zh_ad]; rw [e8, zb_nat (by omega)]
              have eQ9 : zh_ad It Q n k 2 (c + 1) = zs_up (zh_ad It Q n k 2 c) (n + c) r1 := by simp only [zh_ad]; rw [e9, zb_nat (by omega)]
              have eE9 : (if c + 1 = 0 then ek else false) = false := if_neg (by omega)
              have G : zk_G D aA [(a 0, .inr (7, [.ref (a 1), .ref (a 2), .ref (a 3), .ref (a 4), .ref (a 50), .ref (a 60), .ref (a 7), .ref (a 8), .int (zk_b pic), .int (nI storm), .int chance])), (a 2, .inr (5, [.ref (a 20), .ref (a 21), .ref (a 22), .int (nI (n + (c + 1))), .int (nI hide), .ref (a 1), .ref (a 23), .ref (a 24), .int (nI (ver + (c + 1))), .int ew, .int (zk_b (if (c + 1) = 0 then ek else false))])), (a 20, .inl (g 0, 7, .inl (fun i => nI (zh_ad It P n k 0 (c + 1) i)))), (a 21, .inl (g 0, 7, .inl (fun i => nI (zh_ad It S n k 1 (c + 1) i)))), (a 22, .inl (g 0, 7, .inl (fun i => nI (zh_ad It Q n k 2 (c + 1) i)))), (a 23, .inl (g 2, 3024, .inl (zh_cl T n (c + 1)))), (a 8, .inl (g 4, 6, .inr (.inr (.inr (.inr sf))))), (so, .inr (4, [.ref si, .int sort, .int (nI len), .int rel])), (si, .inl (g 1, 60, .inr (.inl It)))] sS H locs := (by rw [eP9, eS9, eQ9, eE9]; exact G)
              refine lv_pop Z.1 Z.2.1 dX7_worlds_150 rfl ?_
              refine lv_iinc (v := nI (c + 1)) (lv' := [(5, .int (nI (c + 1))), (9, .int (nI r1)), (8, .int (nI q1)), (7, .int (nI p1)), (0, .ref (a 0)), (3, .int (nI m)), (4, .ref so), (6, .int (nI (k + 3 * c)))]) Z.1 Z.2.1 dX7_worlds_151 hl (k := 6) rfl (zk_inc c 1) (by decide) rfl (fun ls hl => ?_)
              refine lv_iinc (v := nI ((k + 3 * c) + 3)) (lv' := [(6, .int (nI ((k + 3 * c) + 3))), (5, .int (nI (c + 1))), (9, .int (nI r1)), (8, .int (nI q1)), (7, .int (nI p1)), (0, .ref (a 0)), (3, .int (nI m)), (4, .ref so)]) Z.1 Z.2.1 dX7_worlds_154 hl (k := 7) rfl (zk_inc (k + 3 * c) 3) (by decide) rfl (fun ls hl => ?_)
              refine lv_goto (tgt := 56) Z.1 Z.2.1 dX7_worlds_157 (by decide) ?_
              exact ih56 (c + 1) f9 (by omega) (by omega) (by omega) (by omega) (by rw [zh_cw_y c70 c82 c131_0] at hs; rw [show n + (c + 1) = n + c + 1 by omega, show k + 3 * (c + 1) = k + 3 * c + 3 by omega]; omega) _ _ _ G (lv_sub hl [5, 6, 7, 1, 0] rfl)
            have c131 : (zs_isW ((It (k + 3 * c)).toInt32) ((It (k + 3 * c + 1)).toInt32) ((It (k + 3 * c + 2)).toInt32)) = false := zk_b0.mp c131
            refine lv_goto (tgt := 160) Z.1 Z.2.1 dX7_worlds_134 (by decide) ?_
            refine lv_iload Z.1 Z.2.1 dX7_worlds_160 (lv_at hl 6 rfl) ?_
            have hN : zh_cw It len (f9 + 1) (n + c) (k + 3 * c) = 0 := zh_cw_n (fun q9 => absurd (c131.symm.trans q9.2.2) (by decide))
            have hgo : zh_wsGo (nI d) (nI m) sort rel = true := by unfold zh_wsGo zh_wsOk; rw [c4_0, decide_eq_true c9_0, decide_eq_true c15, c33, c44]; rfl
            have hC : zh_wsC It len n (nI d) (nI k) (nI m) sort rel = c := by unfold zh_wsC; rw [if_pos hgo, if_neg hi9, zb_nat hm, zb_nat hk, ← hV, ← hs, hN, Nat.zero_add]
            exact zk_reti Z hR_ hlk hK hQ G (n + c, ver + c, (if c = 0 then ek else false), zh_ad It P n k 0 c, zh_ad It S n k 1 c, zh_ad It Q n k 2 c, zh_cl T n c) ⟨(by unfold zh_wsA zh_wsOk; rw [c4_0, decide_eq_true c9_0, decide_eq_true c15, if_pos (by rfl), c33, if_neg (by decide), if_pos c44, hC]), (by rw [hC, zb_nat hk])⟩ rfl dX7_worlds_162
        exact L56 _ 0 m (Nat.lt_succ_self _) (by omega) (by omega) (by omega) (by exact hV.symm) _ _ _ G (lv_sub hl [3, 6, 2, 1, 0] rfl)
      have c44 : (decide (¬ sort < 0) && decide (sort = (nI 0))) = false := zk_b0.mp c44
      refine lv_bipush (v := (-12)) Z.1 Z.2.1 dX7_worlds_47 (by decide +kernel) ?_
      have hC : zh_wsC It len n (nI d) (i9) (nI m) sort rel = 0 := by unfold zh_wsC zh_wsGo; rw [c44]; simp
      exact zk_reti Z hR_ hlk hK hQ G (n, ver, ek, P, S, Q, T) ⟨(by unfold zh_wsA zh_wsOk; rw [c4_0, decide_eq_true c9_0, decide_eq_true c15, if_pos (by rfl), c33, if_neg (by decide), c44]; rfl), (by rw [hC]; rfl)⟩ rfl dX7_worlds_49
    have c33 : (zh_non sort rel) = true := zk_b1.mp c33
    refine lv_iconst (v := nI 0) Z.1 Z.2.1 dX7_worlds_36 (by decide +kernel) ?_
    have hC : zh_wsC It len n (nI d) (i9) (nI m) sort rel = 0 := by unfold zh_wsC zh_wsGo; rw [c33]; simp
    exact zk_reti Z hR_ hlk hK hQ G (n, ver, ek, P, S, Q, T) ⟨(by unfold zh_wsA zh_wsOk; rw [c4_0, decide_eq_true c9_0, decide_eq_true c15, if_pos (by rfl), c33]; rfl), (by rw [hC]; rfl)⟩ rfl dX7_worlds_37
  have c15 : ¬ nI m ≤ 6 := c15
  refine lv_iconst (v := (-1)) Z.1 Z.2.1 dX7_worlds_18 (by decide +kernel) ?_
  have hO : zh_wsOk (nI d) (nI m) = false := by unfold zh_wsOk; rw [decide_eq_false c15]; simp
  have hC : zh_wsC It len n (nI d) (i9) (nI m) sort rel = 0 := by unfold zh_wsC zh_wsGo; rw [hO]; rfl
  exact zk_reti Z hR_ hlk hK hQ G (n, ver, ek, P, S, Q, T) ⟨(by unfold zh_wsA; rw [hO]; rfl), (by rw [hC]; rfl)⟩ rfl dX7_worlds_19
