/-! The law: what its walk stands on. -/
def lw_kk (l : Launch) (g : Nat → ClassId) (c : Nat) (a b : Nat → Nat) (D : va_G) (aA : Nat → Prop) (sS : State) (pP : Program) (eE : Env) (mM : MethodId) (sc : Nat) (below : List Frame) (meth : Method) (cC : Code) (qQ : State → Prop) (i9 : Nat) : Prop := ∀ (pic : Bool) (storm : Nat) (chance : Int32) (kc : Nat) (kv : Nat) (kn : Nat) (km : Nat) (sz : Nat) (ns : Nat) (ln : Nat) (p9 : Nat) (ft : Int32) (tp : Nat → Nat) (nm : Nat → Int32) (stk : Nat → Int32) (C : Nat → Nat) (X : Nat → Nat) (CN : Nat → Nat) (XN : Nat → Nat) (n : Nat) (hide : Nat) (ver : Nat) (ew : Int32) (ek : Bool) (P : Nat → Nat) (S : Nat → Nat) (Q : Nat → Nat) (T : Nat → Int32) (F : Nat → Nat) (lw : Int32) (lf : Int32) (bs : Int32) (bw : Int32) (we : Bool) (wo : Int32) (wv : Int32) (ro : Int32) (rv : Int32) (ko : Nat) (kr : Nat) (WD : Nat → Nat) (NE : Nat → Nat) (OW : Nat → Nat) (RE : Nat → Nat) (d : Nat) (z : Nat) (N : Nat → Nat) (A1 : Nat → Nat) (O1 : Nat → Nat) (FN : Nat → Nat) (nw : Nat) (m1 : Nat) (Sn : Nat → Nat) (Tg : Nat → Nat) (Hd : Nat → Int32) (Av : Nat → Int32) (Ld : Nat → Nat) (nw2 : Nat) (m2 : Nat) (Sn2 : Nat → Nat) (Tg2 : Nat → Nat) (Hd2 : Nat → Int32) (Av2 : Nat → Int32) (Ld2 : Nat → Nat) (zr : Nat) (rn : Nat) (nb : Int32) (TR : Nat → Nat) (KD : Nat → Nat) (srt : Nat → Int32) (lns : Nat → Nat) (rls : Nat → Int32) (Its : Nat → Nat → Int64) (M : Nat → Nat) (CA : Nat → Nat) (CW : Nat → Nat) (CI : Nat → Nat) (tn : Nat) (qb : Int32) (qa : Int32) (qe : Int32) (qf : Int32) (qo : Int32) (TX : Nat → Nat) (NM : Nat → Int32) (SN : Nat → Int32) (PR : Nat → Nat) (ST : Nat → Nat) (HA : Nat → Nat) (FW : Nat → Nat) (ZF : Nat → Nat) (ZT : Nat → Nat) (fw : Int32) (fs : Int32) (os : Int32) (MS : Nat → Int32) (HD : Nat → Nat) (z9 : Int32) (iw : Nat) (inow : Nat) (im : Nat) (IM : Nat → Int32) (IH : Nat → Nat) (ow : Int32) (nb8 : Int32) (SH : Nat → Int32) (MN : Nat → Nat) (IT : Nat → Int64) (CR : Nat → Int64) (H : Heap) (locs : List Loc) (ls : Array Slot), lw_I c pic storm chance kc kv kn km sz ns ln p9 ft tp nm stk C X CN XN n hide ver ew ek P S Q T F lw lf bs bw we wo wv ro rv ko kr WD NE OW RE d z N A1 O1 FN nw m1 Sn Tg Hd Av Ld nw2 m2 Sn2 Tg2 Hd2 Av2 Ld2 zr rn nb TR KD srt lns rls Its M CA CW CI tn qb qa qe qf qo TX NM SN PR ST HA FW ZF ZT fw fs os MS HD z9 iw inow im IM IH ow nb8 SH MN IT CR → zk_G D aA [(a 0, .inr (7, [.ref (a 1), .ref (a 2), .ref (a 3), .ref (a 4), .ref (a 50), .ref (a 60), .ref (a 7), .ref (a 8), .int (zk_b pic), .int (nI storm), .int chance])), (a 1, .inr (2, [.ref (a 10), .ref (a 11), .ref (a 12), .ref kc, .ref kv, .ref kn, .ref km, .int (nI sz), .int (nI ns), .int (nI ln), .int (nI p9), .int ft])), (a 10, .inl (g 0, 6, .inl nm)), (a 11, .inl (g 0, 120, .inl (fun i => nI (tp i)))), (a 12, .inl (g 0, 128, .inl stk)), (kc, .inl (g 0, 128, .inl (fun i => nI (C i)))), (kv, .inl (g 0, 128, .inl (fun i => nI (X i)))), (kn, .inl (g 0, 128, .inl (fun i => nI (CN i)))), (km, .inl (g 0, 128, .inl (fun i => nI (XN i)))), (a 2, .inr (5, [.ref (a 20), .ref (a 21), .ref (a 22), .int (nI n), .int (nI hide), .ref (a 1), .ref (a 23), .ref (a 24), .int (nI ver), .int ew, .int (zk_b ek)])), (a 20, .inl (g 0, 7, .inl (fun i => nI (P i)))), (a 21, .inl (g 0, 7, .inl (fun i => nI (S i)))), (a 22, .inl (g 0, 7, .inl (fun i => nI (Q i)))), (a 23, .inl (g 2, 3024, .inl T)), (a 24, .inl (g 0, 7, .inl (fun i => nI (F i)))), (a 3, .inr (6, [.int lw, .int lf, .int bs, .int bw, .ref (a 2), .int (zk_b we), .int wo, .int wv, .int ro, .int rv, .ref (a 30), .ref (a 31), .ref ko, .ref kr])), (a 30, .inl (g 0, 600, .inl (fun i => nI (WD i)))), (a 31, .inl (g 0, 3606, .inl (fun i => nI (NE i)))), (ko, .inl (g 0, 7, .inl (fun i => nI (OW i)))), (kr, .inl (g 0, 7, .inl (fun i => nI (RE i)))), (a 4, .inr (0, [.int (nI d), .int (nI z), .ref (a 40), .ref (a 41), .ref (a 42), .ref (a 43)])), (a 40, .inl (g 0, 40, .inl (fun i => nI (N i)))), (a 41, .inl (g 0, 40, .inl (fun i => nI (A1 i)))), (a 42, .inl (g 0, 40, .inl (fun i => nI (O1 i)))), (a 43, .inl (g 0, 40, .inl (fun i => nI (FN i)))), (a 50, .inr (1, [.int (nI nw), .int (nI m1), .ref (a 51), .ref (a 52), .ref (a 53), .ref (a 54), .ref (a 55)])), (a 51, .inl (g 0, 10, .inl (fun i => nI (Sn i)))), (a 52, .inl (g 0, 10, .inl (fun i => nI (Tg i)))), (a 53, .inl (g 0, 10, .inl Hd)), (a 54, .inl (g 0, 10, .inl Av)), (a 55, .inl (g 0, 6, .inl (fun i => nI (Ld i)))), (a 60, .inr (1, [.int (nI nw2), .int (nI m2), .ref (a 61), .ref (a 62), .ref (a 63), .ref (a 64), .ref (a 65)])), (a 61, .inl (g 0, 10, .inl (fun i => nI (Sn2 i)))), (a 62, .inl (g 0, 10, .inl (fun i => nI (Tg2 i)))), (a 63, .inl (g 0, 10, .inl Hd2)), (a 64, .inl (g 0, 10, .inl Av2)), (a 65, .inl (g 0, 6, .inl (fun i => nI (Ld2 i)))), (a 7, .inr (3, [.int (nI zr), .int (nI rn), .ref (a 70), .ref (a 71), .int nb])), (a 70, .inl (g 0, 24, .inl (fun i => nI (TR i)))), (a 71, .inl (g 0, 50, .inl (fun i => nI (KD i)))), (a 8, .inl (g 4, 6, .inr (.inr (.inr (.inr (zk_sf a)))))), (a 100, .inr (4, [.ref (a 110), .int (srt 0), .int (nI (lns 0)), .int (rls 0)])), (a 110, .inl (g 1, 60, .inr (.inl (Its 0)))), (a 101, .inr (4, [.ref (a 111), .int (srt 1), .int (nI (lns 1)), .int (rls 1)])), (a 111, .inl (g 1, 60, .inr (.inl (Its 1)))), (a 102, .inr (4, [.ref (a 112), .int (srt 2), .int (nI (lns 2)), .int (rls 2)])), (a 112, .inl (g 1, 60, .inr (.inl (Its 2)))), (a 103, .inr (4, [.ref (a 113), .int (srt 3), .int (nI (lns 3)), .int (rls 3)])), (a 113, .inl (g 1, 60, .inr (.inl (Its 3)))), (a 104, .inr (4, [.ref (a 114), .int (srt 4), .int (nI (lns 4)), .int (rls 4)])), (a 114, .inl (g 1, 60, .inr (.inl (Its 4)))), (a 105, .inr (4, [.ref (a 115), .int (srt 5), .int (nI (lns 5)), .int (rls 5)])), (a 115, .inl (g 1, 60, .inr (.inl (Its 5)))), (b 100, .inr (8, [.ref (b 0), .ref (b 1), .ref (b 2), .ref (b 3), .int (nI z), .int (nI d), .int (nI n), .int (nI nw), .ref (b 8), .int (nI ln), .ref (b 10), .int (zm_tn (decide (0 < sz)) tn), .int qb, .int qa, .int qe, .int qf, .int qo, .ref (b 17), .ref (b 18), .ref (b 19), .ref (b 20), .ref (b 21), .ref (b 22), .ref (b 23), .ref (b 24), .int fw, .int fs, .int os, .int (nI m1), .ref (b 29), .ref (b 30), .int z9, .int (zk_b pic), .int (nI iw), .int (nI inow), .int (nI im), .ref (b 36), .ref (b 37), .int (nI zr), .ref (b 39), .ref (b 40), .int (nI rn), .int ow, .int nb8, .ref (b 44), .ref (b 45), .ref (b 46), .ref (b 47)])), (b 0, .inl (g 0, 23, .inl (fun i => nI (M i)))), (b 1, .inl (g 0, 40, .inl (fun i => nI (CA i)))), (b 2, .inl (g 0, 40, .inl (fun i => nI (CW i)))), (b 3, .inl (g 0, 40, .inl (fun i => nI (CI i)))), (b 8, .inl (g 0, 120, .inl (fun i => nI (tp i)))), (b 10, .inl (g 0, 120, .inl (fun i => nI (TX i)))), (b 17, .inl (g 0, 6, .inl NM)), (b 18, .inl (g 3, 6468, .inl SN)), (b 19, .inl (g 0, 49, .inl (fun i => nI (PR i)))), (b 20, .inl (g 0, 4207, .inl (fun i => nI (ST i)))), (b 21, .inl (g 0, 4207, .inl (fun i => nI (HA i)))), (b 22, .inl (g 0, 4207, .inl (fun i => nI (FW i)))), (b 23, .inl (g 0, 7, .inl (fun i => nI (ZF i)))), (b 24, .inl (g 0, 7, .inl (fun i => nI (ZT i)))), (b 29, .inl (g 0, 40, .inl MS)), (b 30, .inl (g 0, 6, .inl (fun i => nI (HD i)))), (b 36, .inl (g 0, 40, .inl IM)), (b 37, .inl (g 0, 6, .inl (fun i => nI (IH i)))), (b 39, .inl (g 0, 50, .inl (fun i => nI (KD i)))), (b 40, .inl (g 0, 24, .inl (fun i => nI (TR i)))), (b 44, .inl (g 0, 6, .inl SH)), (b 45, .inl (g 0, 6, .inl (fun i => nI (MN i)))), (b 46, .inl (g 1, 360, .inr (.inl IT))), (b 47, .inl (g 1, 60, .inr (.inl CR)))] sS H locs → lv_has ls 4 [(3, .int (nI i9)), (2, .ref (b 100)), (1, .ref (a 0)), (0, .ref sc)] → W pP l eE room_1 sS mM #[Value.ref sc] below meth cC H locs 600000 7302250 qQ (F0 mM 1574 ls [])
theorem lw_cmp (x : Int64) : lg_cmp x x = nI 0 := by
  unfold lg_cmp
  rw [if_neg (show ¬ x < x from fun q => by have := Int64.lt_iff_toInt_lt.mp q; omega)]
  first | rfl | (rw [if_pos rfl]; rfl) | simp
theorem lw_x6 (x : Int32) : ∃ k : Nat, k < 6 ∧ (zb_w 6 x = true → x.toInt.toNat = k) := by
  by_cases h : x.toInt.toNat < 6
  · exact ⟨x.toInt.toNat, h, fun _ => rfl⟩
  · exact ⟨0, by decide, fun q => by
      simp only [zb_w, Bool.and_eq_true, decide_eq_true_eq] at q
      exact absurd q.2 h⟩
theorem lw_rd {p : Program} {l : Launch} {e : Env} {R : Room} {s : State} {m : MethodId} {args : Array Value} {below : List Frame} {meth : Method} {c : Code} {H : Heap} {locs : List Loc} {cells slots : Nat} {Q : State → Prop} {cc : ByteArray} {pc : Nat} {ls : Array Slot} {rest : List Value} {D : va_G} {A : Nat → Prop} {ws : va_W} {sc L : Nat} {xs : Nat → Int32} (hexec : p.tables.exec = Jvm.exec) (hb : c.code = cc) (hX : va_X sc L xs s s.heap) (hbl : sc < s.heap.size) (hbA : ¬ A sc) (G : zk_G D A ws s H locs) {k : Nat} {v : Int32} (hk : k < L) (hL : L ≤ 3072) (hv : xs k = v) (hdg : decode cc pc = .ok (.iaload, 1))
    (kk : W p l e R s m args below meth c H locs cells slots Q (F0 m (pc + 1) ls (.int v :: rest))) : W p l e R s m args below meth c H locs cells slots Q (F0 m pc ls (.int (nI k) :: .ref sc :: rest)) := by
  have e : (nI k).toNatClampNeg = k := nI_clamp (by omega)
  refine va_sld hexec hb hX hbl hbA G.2.2 (vp_in_nI hk (by omega)) hdg ?_
  rw [e, hv]; exact kk
theorem lw_Pi_up {pic : Bool} {n n1 nw2 m2 : Nat} {Sn2 Tg2 : Nat → Nat} {Hd2 Av2 : Nat → Int32} {Ld2 : Nat → Nat} {iw inow im : Nat} {IM : Nat → Int32} {IH : Nat → Nat} (h : lw_Pi pic n nw2 m2 Sn2 Tg2 Hd2 Av2 Ld2 iw inow im IM IH) (hn : n ≤ n1) : lw_Pi pic n1 nw2 m2 Sn2 Tg2 Hd2 Av2 Ld2 iw inow im IM IH := fun hp => by
  obtain ⟨a, b, c, d, e⟩ := h hp
  exact ⟨Nat.le_trans a hn, b, c, ze_Ms_up d hn, e⟩
theorem lw_beq {pic : Bool} {n nw2 m2 : Nat} {Sn2 Tg2 : Nat → Nat} {Hd2 Av2 : Nat → Int32} {Ld2 : Nat → Nat} {iw inow im : Nat} {IM : Nat → Int32} {IH : Nat → Nat} (h : lw_Pi pic n nw2 m2 Sn2 Tg2 Hd2 Av2 Ld2 iw inow im IM IH) : (if pic = true then nI nw2 else (-5)) = (if pic = true then nI inow else (-5)) := by
  cases hp : pic with
  | false => rfl
  | true => rw [(h hp).2.1]
theorem lw_fillMs {n m : Nat} {Sn Tg Sn2 Tg2 : Nat → Nat} {Hd Av Hd2 Av2 MS IM : Nat → Int32} (h : ze_Ms n m Sn Tg Hd Av MS) : ze_Ms n m (zs_fill Sn Sn2 10) (zs_fill Tg Tg2 10) (zs_fill Hd Hd2 10) (zs_fill Av Av2 10) (zs_fill MS IM 40) := by
  obtain ⟨h1, h2, h3, h4⟩ := h
  have e : ∀ {α : Type} (f g : Nat → α) (x : Nat), x < 10 → zs_fill f g 10 x = f x := fun f g x hx => if_pos hx
  have e4 : ∀ (f g : Nat → Int32) (x : Nat), x < 40 → zs_fill f g 40 x = f x := fun f g x hx => if_pos hx
  refine ⟨h1, fun x hx => ?_, fun x hx => ?_, fun x hx => ?_⟩
  · rw [e4 _ _ _ (by omega), e4 _ _ _ (by omega), e4 _ _ _ (by omega), e4 _ _ _ (by omega), e _ _ _ (by omega), e _ _ _ (by omega), e _ _ _ (by omega), e _ _ _ (by omega)]
    exact h2 x hx
  · rw [e _ _ _ (by omega), e _ _ _ (by omega)]; exact h3 x hx
  · rw [e _ _ _ (by omega), e _ _ _ (by omega), e _ _ _ (by omega)]; exact h4 x hx
theorem lw_img {n nw m1 : Nat} {Sn Tg Sn2 Tg2 Ld Ld2 HD IH : Nat → Nat} {Hd Av Hd2 Av2 MS IM : Nat → Int32} (h : ze_Ms n m1 Sn Tg Hd Av MS) (hl : ze_Ld n Ld HD) : lw_Pi true n nw m1 (zs_fill Sn Sn2 10) (zs_fill Tg Tg2 10) (zs_fill Hd Hd2 10) (zs_fill Av Av2 10) (zs_fill Ld Ld2 6) n nw m1 (zs_fill MS IM 40) (zs_fill HD IH 6) := fun _ => by
  refine ⟨Nat.le_refl n, rfl, rfl, lw_fillMs h, fun w hw => ?_⟩
  have e1 : zs_fill Ld Ld2 6 w = Ld w := if_pos hw
  have e2 : zs_fill HD IH 6 w = HD w := if_pos hw
  rw [e1, e2]
  by_cases c : w < n
  · rw [if_pos c, hl.1 w hw]
  · rw [if_neg c, hl.2 w (by omega) hw]
theorem lw_backLd {n iw : Nat} {Ld Ld2 HD IH : Nat → Nat} (hiw : iw ≤ n) (h : ∀ w, w < 6 → Ld2 w = if w < iw then IH w else 0) : ze_Ld n (zs_fill Ld2 Ld 6) (zs_fill (fun w => if w < iw then IH w else 0) HD 6) := by
  have e1 : ∀ (f g : Nat → Nat) (w : Nat), w < 6 → zs_fill f g 6 w = f w := fun f g w hw => if_pos hw
  refine ⟨fun w hw => ?_, fun w h1 h2 => ?_⟩
  · rw [e1 _ _ w hw, e1 _ _ w hw, h w hw]
  · rw [e1 _ _ w h2, h w h2, if_neg (by omega)]
theorem lw_send {n m1 : Nat} {pq : Int32} {Sn Tg : Nat → Nat} {Hd Av MS : Nat → Int32} (h : ze_Ms n m1 Sn Tg Hd Av MS) : ze_Ms n (if (zb_pair n pq && decide (m1 < 10)) = true then m1 + 1 else m1) (if (zb_pair n pq && decide (m1 < 10)) = true then zs_up Sn m1 (zu_p pq) else Sn) (if (zb_pair n pq && decide (m1 < 10)) = true then zs_up Tg m1 (zu_q pq) else Tg) (if (zb_pair n pq && decide (m1 < 10)) = true then upd Hd m1 (nI (zu_p pq)) else Hd) (if (zb_pair n pq && decide (m1 < 10)) = true then upd Av m1 (-2) else Av) (if (zb_pair n pq && decide (m1 < 10)) = true then zm_snd MS m1 (zu_p pq) (zu_q pq) else MS) := by
  by_cases c : (zb_pair n pq && decide (m1 < 10)) = true
  · rw [if_pos c, if_pos c, if_pos c, if_pos c, if_pos c, if_pos c]
    have c2 := (Bool.and_eq_true _ _).mp c
    have c3 := zy_pq c2.1
    exact ze_send h (of_decide_eq_true c2.2) c3.1 c3.2.1
  · rw [if_neg c, if_neg c, if_neg c, if_neg c, if_neg c, if_neg c]
    exact h
theorem lw_fd {ln : Nat} {tp : Nat → Nat} {x : Int32} (h1 : ln ≤ 120) (h2 : ∀ i, tp i < 256) : (if (zb_w 256 x && decide (ln < 120)) = true then ln + 1 else ln) ≤ 120 ∧ ∀ i, (if (zb_w 256 x && decide (ln < 120)) = true then zs_up tp ln x.toInt.toNat else tp) i < 256 := by
  by_cases c : (zb_w 256 x && decide (ln < 120)) = true
  · rw [if_pos c, if_pos c]
    have c2 := (Bool.and_eq_true _ _).mp c
    obtain ⟨j, hj, rfl, hj2⟩ := zb_w_ex c2.1
    refine ⟨of_decide_eq_true c2.2, fun i => ?_⟩
    rw [zb_nat hj]
    show (if i = ln then j else tp i) < 256
    split
    · exact hj2
    · exact h2 i
  · rw [if_neg c, if_neg c]; exact ⟨h1, h2⟩
theorem lw_body {zr : Nat} {KD : Nat → Nat} {x : Int32} (h1 : zr ≤ 50) (h2 : ∀ i, KD i < 8) : (if (zr_kind x && decide (zr < 50)) = true then zr + 1 else zr) ≤ 50 ∧ zr ≤ (if (zr_kind x && decide (zr < 50)) = true then zr + 1 else zr) ∧ ∀ i, (if (zr_kind x && decide (zr < 50)) = true then zs_up KD zr x.toInt.toNat else KD) i < 8 := by
  by_cases c : (zr_kind x && decide (zr < 50)) = true
  · rw [if_pos c, if_pos c]
    have c2 := (Bool.and_eq_true _ _).mp c
    have c3 := of_decide_eq_true c2.2
    refine ⟨c3, by omega, fun i => ?_⟩
    show (if i = zr then x.toInt.toNat else KD i) < 8
    split
    · have h9 := c2.1
      unfold zr_kind at h9
      simp only [Bool.and_eq_true, decide_eq_true_eq] at h9
      obtain ⟨y, hy, rfl⟩ := nI_of h9.1
      rw [zb_nat hy]
      have := mt (nI_leI (a := 8) (by decide) hy).mpr h9.2
      omega
    · exact h2 i
  · rw [if_neg c, if_neg c]; exact ⟨h1, Nat.le_refl _, h2⟩
theorem ze_wh_lt {n a k v : Nat} (h : ze_vo n a k v) : ze_wh a k < 23 := by
  have h1 := h.1
  unfold ze_wh
  split
  · omega
  · split
    · omega
    · split
      · omega
      · split <;> omega
theorem lw_okfill {tl : Bool} {ev : (Nat → Int32) → Int32} {P S R : Nat → Nat} {hide n : Nat} {T : Nat → Int32} (hW : zs_W n P S) : zs_ok tl ev P R hide n (zs_fill (fun _ => vp_nar .byte (nI 0)) T 3024) := by
  intro j hj hg pa pb hpa hpb
  have q1 := (hW.2 (zk_les j) (by have := zk_les_gre hj; omega)).2.1
  have q2 := (hW.2 (zk_gre j) hg).2.1
  refine Or.inl ?_
  simp only [zs_fill]
  rw [if_pos (by omega)]
  decide
theorem lw_elem {zr : Nat} {SH : Nat → Int32} {MN : Nat → Nat} {IT It : Nat → Int64} {x y sort rel : Int32} {len k : Nat} (hx : zb_w 6 x = true → x.toInt.toNat = k ∧ ze_Sh zr SH MN IT k sort len rel It) : (if zh_re x y sort rel len = 0 then It y.toInt.toNat else (-9223372036854775808)) = (if zm_re SH MN x y = 0 then IT (60 * x.toInt.toNat + y.toInt.toNat) else (-9223372036854775808)) := by
  have hre : zh_re x y sort rel len = zm_re SH MN x y := ze_re (zr := zr) (fun hw => by
    obtain ⟨e, a1, a2, a3, a4, -⟩ := hx hw
    rw [e]; exact ⟨a4, a2, a1⟩)
  rw [hre]
  by_cases h1 : zm_re SH MN x y = 0
  · rw [if_pos h1, if_pos h1]
    obtain ⟨hw, hy⟩ := zm_re_0 h1
    obtain ⟨e, a1, a2, a3, a4, -⟩ := hx hw
    rw [e] at hy ⊢
    obtain ⟨j, hj, rfl, hjn⟩ := zb_w_ex hy
    rw [zb_nat hj]
    exact a3 j (by omega)
  · rw [if_neg h1, if_neg h1]
theorem lw_wsle {It : Nat → Int64} {len n : Nat} {x i nn sort rel : Int32} : zh_wsC It len n x i nn sort rel ≤ zh_cw It len nn.toInt.toNat n i.toInt.toNat ∧ (zh_wsC It len n x i nn sort rel ≠ 0 → zb_w 6 x = true) := by
  unfold zh_wsC
  by_cases c : zh_wsGo x nn sort rel = true
  · rw [if_pos c]
    refine ⟨?_, fun _ => ?_⟩
    · split
      · exact Nat.zero_le _
      · exact Nat.le_refl _
    · unfold zh_wsGo zh_wsOk at c
      exact ((Bool.and_eq_true _ _).mp ((Bool.and_eq_true _ _).mp c).1).1
  · rw [if_neg c]; exact ⟨Nat.zero_le _, fun q => absurd rfl q⟩
section
variable {tx ty : Nat → Nat} {ln : Nat} {σ : Type} {em : Nat → Nat → σ → σ}
theorem zl_cg_num (h : ∀ p, zg_c tx ln p = zg_c ty ln p) : ∀ f p v, zg_num tx ln f p v = zg_num ty ln f p v
  | 0, _, _ => rfl
  | f + 1, p, v => by simp only [zg_num]; rw [h p, zl_cg_num h f (p + 1)]
theorem zl_cg_lp (h : ∀ p, zg_c tx ln p = zg_c ty ln p) {part part' : Nat → σ → zg_R σ} (hp : ∀ p s, part p s = part' p s) (lev : Nat) : ∀ f p s, zg_lp tx ln em part lev f p s = zg_lp ty ln em part' lev f p s
  | 0, _, _ => rfl
  | f + 1, p, s => by
    simp only [zg_lp]
    rw [h p, hp (p + 1) s]
    split
    · cases part' (p + 1) s with
      | inl e => rfl
      | inr r => exact zl_cg_lp h hp lev f _ _
    · rfl
theorem zl_cg_zg (h : ∀ p, zg_c tx ln p = zg_c ty ln p) : ∀ d lev op p (s : σ), zg tx ln em d lev op p s = zg ty ln em d lev op p s
  | 0, _, _, _, _ => rfl
  | d + 1, lev, op, p, s => by
    simp only [zg]
    rw [h p, zl_cg_zg h d (lev + 1) op p s, zl_cg_zg h d 0 (op + 1) (p + 1) s, zl_cg_zg h d 5 (op + 1) (p + 1) s, zl_cg_num h 4 p 0]
    split
    · cases zg ty ln em d (lev + 1) op p s with
      | inl e => rfl
      | inr r => exact zl_cg_lp h (fun p s => zl_cg_zg h d (lev + 1) op p s) lev _ _ _
    · split
      · rfl
      · split
        · rfl
        · split
          · rfl
          · split
            · cases zg ty ln em d 0 (op + 1) (p + 1) s with
              | inl e => rfl
              | inr r => simp only [h r.1]
            · rfl
end
theorem zl_cg_line {tx ty : Nat → Nat} {ln : Nat} (h : ∀ p, zg_c tx ln p = zg_c ty ln p) (nm : Nat → Int32) (p : Nat) : zm_line tx ln nm p = zm_line ty ln nm p := by
  unfold zm_line
  rw [zl_cg_zg h]
  cases zg ty ln (zm_em nm) 42 0 0 p [] with
  | inl e => rfl
  | inr r =>
    simp only
    rw [h r.1, zl_cg_zg h]
theorem zl_cg_lns {tx ty : Nat → Nat} {ln : Nat} (h : ∀ p, zg_c tx ln p = zg_c ty ln p) (nm : Nat → Int32) : ∀ f p gv z, zm_lns tx ln nm f p gv z = zm_lns ty ln nm f p gv z
  | 0, _, _, _ => rfl
  | f + 1, p, gv, z => by
    simp only [zm_lns]
    rw [zl_cg_line h]
    cases zm_line ty ln nm p with
    | inl e => rfl
    | inr r =>
      simp only
      rw [h r.1]
      split
      · exact zl_cg_lns h nm f _ _ _
      · rfl
theorem zl_cg_wo {tx ty : Nat → Nat} {ln : Nat} (nm : Nat → Int32) : zm_wo (zs_fill tx ty ln) ln nm = zm_wo tx ln nm := by
  have h : ∀ p, zg_c (zs_fill tx ty ln) ln p = zg_c tx ln p := fun p => by
    unfold zg_c
    split
    · rename_i hp; exact if_pos hp
    · rfl
  unfold zm_wo
  rw [zl_cg_lns h nm]
theorem lw_leq {tp CN XN : Nat → Nat} {ln : Nat} {NM : Nat → Int32} (hln : ln ≤ 120) : zg_law (zg_read tp ln CN XN) = zm_law (zm_wo tp ln NM) := by
  obtain ⟨h1, h2⟩ := zl_law (tp := tp) hln CN XN
  cases e : zg_read tp ln CN XN with
  | inl q => rw [h1 q e NM]; rfl
  | inr q => rw [(h2 q e).2.2 NM]; rfl
theorem lw_evh {tp TX CN XN : Nat → Nat} {ln : Nat} {q : Nat × zg_S} (hln : ln ≤ 120) (htp : ∀ i, tp i < 256) (hTX : ∀ i, TX i < 256) (h : zg_read tp ln CN XN = .inr q) : zm_evh (decide (0 < q.2.1)) ln (zs_fill tp TX ln) (zl_ev q.2.2.1 q.2.2.2 q.2.1) :=
  ⟨hln, fun i => by
    show (if i < ln then tp i else TX i) < 256
    split
    · exact htp i
    · exact hTX i, fun _ NM => by rw [zl_cg_wo, ((zl_law (tp := tp) hln CN XN).2 q h).2.2 NM]⟩
theorem lw_go0 {n m1 k : Nat} {Sn Tg : Nat → Nat} {Z : zd_T} {G8 : zm_T} {Hd Av : Nat → Int32} {Ld : Nat → Nat} {c1 : Int32} {MG : Nat → Int32} {HD : Nat → Nat} {z1 : Int32} (h : k ≤ 99 ∧ ze_Ms n m1 Sn Tg Z.1 Z.2.1 G8.1 ∧ ze_Ld n Z.2.2.1 G8.2.1) (e : (Hd, Av, Ld, c1) = Z) (e8 : (MG, HD, z1) = G8) : k ≤ 99 ∧ ze_Ms n m1 Sn Tg Hd Av MG ∧ ze_Ld n Ld HD := by
  subst e e8; exact h
theorem lw_Cw_cg {C : Nat → Nat} {X : Nat → Nat} {sz : Nat} {P : Nat → Nat} {S : Nat → Nat} {Q : Nat → Nat} {hide : Nat} {n : Nat} {ver : Nat} {lw : Int32} {lf : Int32} {we : Bool} {wo : Int32} {wv : Int32} {P9 S9 Q9 : Nat → Nat} (hn : n ≤ 7) (hc : ze_cg n P P9 S S9 Q Q9) (h : lw_Cw C X sz P S Q hide n ver lw lf we wo wv) : lw_Cw C X sz P9 S9 Q9 hide n ver lw lf we wo wv := by
  unfold lw_Cw
  rw [ze_cg_wd hn hc, ze_cg_rnd hc n (Nat.le_refl n)]
  exact h
theorem lw_Cr_cg {C : Nat → Nat} {X : Nat → Nat} {sz : Nat} {P : Nat → Nat} {S : Nat → Nat} {Q : Nat → Nat} {hide : Nat} {n : Nat} {ver : Nat} {bs : Int32} {bw : Int32} {ro : Int32} {rv : Int32} {P9 S9 Q9 : Nat → Nat} (hn : n ≤ 6) (hc : ze_cg n P P9 S S9 Q Q9) (h : lw_Cr C X sz P S Q hide n ver bs bw ro rv) : lw_Cr C X sz P9 S9 Q9 hide n ver bs bw ro rv := by
  unfold lw_Cr
  simp only [ze_cg_rb hn hc]
  exact h
