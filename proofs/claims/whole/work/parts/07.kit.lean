/-! My own wrappers: one context for all contracts (tables that nobody writes, nest words), one bundle for a world, rows in one piece. -/
abbrev zk_TY (g : Nat → ClassId) : List (ClassId × FieldType) := [(g 0, .int), (g 1, .long), (g 2, .byte), (g 3, .boolean), (g 4, .object "BehindBig$Shelf")]
/-- the four static tables' contents -/
def zk_les (j : Nat) : Nat := [0, 0, 1, 0, 1, 2, 0, 1, 2, 3, 0, 1, 2, 3, 4, 0, 1, 2, 3, 4, 5].getD j 0
def zk_gre (j : Nat) : Nat := [1, 2, 2, 3, 3, 3, 4, 4, 4, 4, 5, 5, 5, 5, 5, 6, 6, 6, 6, 6, 6].getD j 0
def zk_abo (j : Nat) : Int32 := [-1, 0, 0, 2, 1, 3, 0, 4].getD j 0
def zk_own (j : Nat) : Nat := [1, 10, 11, 2, 20, 0, 0, 0, 0, 30, 0, 0, 0, 41, 40, 0, 0, 0, 50, 0, 0, 0, 0, 60, 70, 0, 0, 0, 0, 80, 0, 81].getD j 0
abbrev zk_w65 : Cond := .methodLinkNest "BehindBig$Sky" 65 yX7_left "BehindBig"
abbrev zk_w75 : Cond := .methodLinkNest "BehindBig$Sky" 75 yX7_commonRound "BehindBig"
abbrev zk_w131 : Cond := .fieldLinkNest "BehindBig" 131 "BehindBig$Law" "length" "I" "BehindBig"
abbrev zk_w9 : Cond := .methodLinkNest "BehindBig" 9 yX2_init "BehindBig"
abbrev zk_w36 : Cond := .methodLinkNest "BehindBig" 36 yX0_init "BehindBig"
abbrev zk_w43 : Cond := .methodLinkNest "BehindBig" 43 yX1_init "BehindBig"
abbrev zk_w53 : Cond := .methodLinkNest "BehindBig" 53 yX3_init "BehindBig"
abbrev zk_w64 : Cond := .methodLinkNest "BehindBig" 64 yX4_init "BehindBig"
def zk_nest (U : State) : Prop := va_Nw zk_w65 U ∧ va_Nw zk_w75 U ∧ va_Nw zk_w131 U ∧ va_Nw zk_w9 U ∧ va_Nw zk_w36 U ∧ va_Nw zk_w43 U ∧ va_Nw zk_w53 U ∧ va_Nw zk_w64 U
def zk_tab (C n : String) (N t : Nat) (f : Nat → Value) (A : Nat → Prop) (U : State) (H : Heap) : Prop := va_Z C n "[I" (.ref t) A U H ∧ va_T .int t N f A U H
def zk_ST (τ : Nat → Nat) (A : Nat → Prop) (U : State) (H : Heap) : Prop :=
  zk_tab "BehindBig$Sky" "LESSER" 21 (τ 0) (fun j => .int (nI (zk_les j))) A U H ∧ zk_tab "BehindBig$Sky" "GREATER" 21 (τ 1) (fun j => .int (nI (zk_gre j))) A U H ∧
  zk_tab "BehindBig$Relays" "ABOVE" 8 (τ 2) (fun j => .int (zk_abo j)) A U H ∧ zk_tab "BehindBig$Relays" "OWN" 32 (τ 3) (fun j => .int (nI (zk_own j))) A U H ∧ zk_nest U
theorem zk_tab.to {C n : String} {N t : Nat} {f : Nat → Value} {A A' : Nat → Prop} {s U : State} {H : Heap} {H0 : Heap} {locs : List Loc} (h : zk_tab C n N t f A s H0) (hS : va_S A H0 H locs) (hA : ∀ q, A' q → A q) (hvm : s.vm.Alike U.vm) : zk_tab C n N t f A' U H :=
  ⟨((va_Z.moved hvm h.1).kept (fun a h1 h2 => hS.2.1 a h1 h2)).narrow hA, ((va_T.moved hvm h.2).kept (fun a h1 h2 => hS.2.1 a h1 h2)).narrow hA⟩
theorem zk_nest.to {s U : State} (h : zk_nest s) (hW : s.WarmedH U.vm) : zk_nest U :=
  ⟨va_Nw.warmM hW h.1, va_Nw.warmM hW h.2.1, va_Nw.warmF hW h.2.2.1, va_Nw.warmM hW h.2.2.2.1, va_Nw.warmM hW h.2.2.2.2.1, va_Nw.warmM hW h.2.2.2.2.2.1, va_Nw.warmM hW h.2.2.2.2.2.2.1, va_Nw.warmM hW h.2.2.2.2.2.2.2⟩
theorem zk_nest.same {s U : State} (h : zk_nest s) (hv : s.vm = U.vm) : zk_nest U :=
  ⟨va_Nw.same rfl hv h.1, va_Nw.same rfl hv h.2.1, va_Nw.same rfl hv h.2.2.1, va_Nw.same rfl hv h.2.2.2.1, va_Nw.same rfl hv h.2.2.2.2.1, va_Nw.same rfl hv h.2.2.2.2.2.1, va_Nw.same rfl hv h.2.2.2.2.2.2.1, va_Nw.same rfl hv h.2.2.2.2.2.2.2⟩
theorem zk_ST.to {τ : Nat → Nat} {A A' : Nat → Prop} {s U : State} {H : Heap} {H0 : Heap} {locs : List Loc} (h : zk_ST τ A s H0) (hS : va_S A H0 H locs) (hA : ∀ q, A' q → A q) (hW : s.WarmedH U.vm) : zk_ST τ A' U H :=
  ⟨h.1.to hS hA hW.alike, h.2.1.to hS hA hW.alike, h.2.2.1.to hS hA hW.alike, h.2.2.2.1.to hS hA hW.alike, h.2.2.2.2.to hW⟩
theorem zk_ST.same {τ : Nat → Nat} {A : Nat → Prop} {s U : State} {H : Heap} (h : zk_ST τ A s H) (hv : s.vm = U.vm) : zk_ST τ A U H := by
  have al : s.vm.Alike U.vm := by rw [hv]; exact Vm.Alike.refl _
  exact ⟨h.1.to va_S.rf (fun _ q => q) al, h.2.1.to va_S.rf (fun _ q => q) al, h.2.2.1.to va_S.rf (fun _ q => q) al, h.2.2.2.1.to va_S.rf (fun _ q => q) al, h.2.2.2.2.same hv⟩
/-- the world while a method runs -/
def zk_G (D : va_G) (A : Nat → Prop) (ws : va_W) (s : State) (H : Heap) (locs : List Loc) : Prop := va_P D vwCl ws H ∧ va_D A ws ∧ va_S A s.heap H locs
def zk_Pc (D : va_G) (g : Nat → ClassId) (τ : Nat → Nat) (av : List Value) (W0 : va_W) (sz : Nat) : Array Value → State → Prop := va_Pc av (fun U => U.heap.size = sz ∧ va_P D vwCl W0 U.heap ∧ va_K D vwCl (zk_TY g) U ∧ va_D (va_A W0 sz) W0 ∧ zk_ST τ (va_A W0 sz) U U.heap)
def zk_B {S : Type} (D : va_G) (g : Nat → ClassId) (A : Nat → Prop) (W1 : S → va_W) : S → State → Prop := fun u t => va_P D vwCl (W1 u) t.heap ∧ va_K D vwCl (zk_TY g) t ∧ va_D A (W1 u)
/-- contracts: an int (or boolean) answer, a long one, none -/
def zk_MI {S : Type} (l : Launch) (D : va_G) (g : Nat → ClassId) (τ : Nat → Nat) (y : MethodName) (wd : List Cond) (rm : Room) (av : List Value) (W0 : va_W) (post : Int32 → S → Prop) (W1 : S → va_W) : Prop :=
  ∀ sz : Nat, Met l y wd rm (zk_Pc D g τ av W0 sz) (va_Qi post (zk_B D g (va_A W0 sz) W1) (va_A W0 sz)) rm.cells rm.slots (va_A W0 sz)
def zk_ML {S : Type} (l : Launch) (D : va_G) (g : Nat → ClassId) (τ : Nat → Nat) (y : MethodName) (wd : List Cond) (rm : Room) (av : List Value) (W0 : va_W) (post : Int64 → S → Prop) (W1 : S → va_W) : Prop :=
  ∀ sz : Nat, Met l y wd rm (zk_Pc D g τ av W0 sz) (va_Ql post (zk_B D g (va_A W0 sz) W1) (va_A W0 sz)) rm.cells rm.slots (va_A W0 sz)
def zk_MV {S : Type} (l : Launch) (D : va_G) (g : Nat → ClassId) (τ : Nat → Nat) (y : MethodName) (wd : List Cond) (rm : Room) (av : List Value) (W0 : va_W) (post : S → Prop) (W1 : S → va_W) : Prop :=
  ∀ sz : Nat, Met l y wd rm (zk_Pc D g τ av W0 sz) (va_Qv post (zk_B D g (va_A W0 sz) W1) (va_A W0 sz)) rm.cells rm.slots (va_A W0 sz)
/-- what a method's body is walked with -/
abbrev zk_Body (l : Launch) (D : va_G) (g : Nat → ClassId) (τ : Nat → Nat) (own : String) (y : MethodName) (wd : List Cond) (rm : Room) (av : List Value) (W0 : va_W) (cc : ByteArray) (maxL : Nat) (ret : Option FieldType) (Qc : (Nat → Prop) → Array Value → State → Outcome → State → Prop) : Prop :=
  ∀ (p : Program) (e : Env) (s : State) (m : MethodId) (args : Array Value) (below : List Frame) (meth : Method) (c : Code) (A : Nat → Prop) (ls : Array Slot) (Q : State → Prop), CallFix p m c cc maxL s args wd own → meth.sig.returnType = ret → meth.locks = false → meth.name = y.name → va_K D vwCl (zk_TY g) s → zk_ST τ A s s.heap → (∀ q, s.heap.size ≤ q → A q) → Q = MQ below (Qc A) args s rm.cells rm.slots A → zk_G D A W0 s s.heap [] → lv_has ls maxL (lv_args 0 av) →
    W p l e rm s m args below meth c s.heap [] 0 0 Q (F0 m 0 ls [])
theorem zk_of {l : Launch} {D : va_G} {g : Nat → ClassId} {τ : Nat → Nat} {own : String} {y : MethodName} {wd ws' : List Cond} {rm : Room} {av : List Value} {W0 : va_W} {cc : ByteArray} {maxL : Nat} {ret : Option FieldType} {Qc : (Nat → Prop) → Array Value → State → Outcome → State → Prop}
    (hy : plainName y.cls = true) (ho : y.cls = own) (hw : wd = Cond.code y cc maxL ret :: ws') (hn : (lg_sl av).length ≤ maxL) (body : zk_Body l D g τ own y wd rm av W0 cc maxL ret Qc) (sz : Nat) : Met l y wd rm (zk_Pc D g τ av W0 sz) (Qc (va_A W0 sz)) rm.cells rm.slots (va_A W0 sz) := by
  subst ho
  refine Met.ofW (cc := cc) (maxL := maxL) (ret := ret) hy hw ?_
  intro p e s m args below meth c s₁ B hml hv
  obtain ⟨rfl, hsz, hP, hK, hD, hT⟩ := hv
  have hl := lv_entry av (n := maxL) hn
  rw [lg_entry_eq]
  subst hsz
  exact body p e s m _ below meth c (va_A W0 s.heap.size) _ _ ⟨B.exec, B.bytes, hml, findClass_of_methodNamed B.named, atoms_spec (ws := wd) B.pre⟩ B.returns B.notSynchronized ((name_of_methodNamed B.named B.method).1) hK hT (fun q h => Or.inr h) rfl ⟨hP, hD, va_S.rf⟩ hl
theorem zk_inc (a n : Nat) : nI a + Int32.ofInt (Int.ofNat n) = nI (a + n) := by
  have e : Int32.ofInt (Int.ofNat n) = nI n := Int32.ofInt_eq_ofNat
  rw [e, nI_add]
theorem zk_dec0 (n : Nat) : nI (n + 1) + Int32.ofInt (-1) = nI n := by
  have e : Int32.ofInt (-1) = (-1 : Int32) := by decide
  rw [e]; exact pk_m1 n
theorem zk_dec1 {n : Nat} (h : 1 ≤ n) : nI n + Int32.ofInt (-1) = nI (n - 1) := by
  obtain ⟨k, rfl⟩ : ∃ k, n = k + 1 := ⟨n - 1, by omega⟩
  exact zk_dec0 k
theorem zk_nmax {a b : Nat} (ha : a < 2 ^ 31) (hb : b < 2 ^ 31) : (if nI a < nI b then nI b else nI a) = nI (max a b) := by
  by_cases h : a < b
  · rw [if_pos ((nI_ltI ha hb).mpr h), Nat.max_eq_right (Nat.le_of_lt h)]
  · rw [if_neg (fun q => h ((nI_ltI ha hb).mp q)), Nat.max_eq_left (Nat.not_lt.mp h)]
theorem zk_nmin {a b : Nat} (ha : a < 2 ^ 31) (hb : b < 2 ^ 31) : (if nI b < nI a then nI b else nI a) = nI (min a b) := by
  by_cases h : b < a
  · rw [if_pos ((nI_ltI hb ha).mpr h), Nat.min_eq_right (Nat.le_of_lt h)]
  · rw [if_neg (fun q => h ((nI_ltI hb ha).mp q)), Nat.min_eq_left (Nat.not_lt.mp h)]
theorem zk_lne0 {b : Nat} (h0 : 0 < b) (hb : b < 2 ^ 63) : ¬ lN b = 0 := fun q => by
  have : lN b = lN 0 := q
  rw [pk_lEQ hb (by decide)] at this
  omega
def zk_b (b : Bool) : Int32 := if b then 1 else 0
theorem zk_b0 {b : Bool} : zk_b b = 0 ↔ b = false := by cases b <;> decide
theorem zk_b1 {b : Bool} : ¬ zk_b b = 0 ↔ b = true := by cases b <;> decide
theorem zk_bt : zk_b true = 1 := rfl
theorem zk_bf : zk_b false = 0 := rfl
theorem zk_bnar {b : Bool} : narrow .boolean (.int (zk_b b)) = .int (zk_b b) := by cases b <;> rfl
theorem zk_bfit {b : Bool} : fits .boolean (.int (zk_b b)) = true := by cases b <;> rfl
theorem zk_bvp {b : Bool} : vp_nar .boolean (zk_b b) = zk_b b := by cases b <;> rfl
theorem zk_lt {a b : Nat} (ha : a < 2 ^ 31) (hb : b < 2 ^ 31) (h : nI a < nI b) : a < b := (nI_ltI ha hb).mp h
theorem zk_nlt {a b : Nat} (ha : a < 2 ^ 31) (hb : b < 2 ^ 31) (h : ¬ nI a < nI b) : b ≤ a := Nat.not_lt.mp (fun q => h ((nI_ltI ha hb).mpr q))
theorem zk_le {a b : Nat} (ha : a < 2 ^ 31) (hb : b < 2 ^ 31) (h : nI a ≤ nI b) : a ≤ b := (nI_leI ha hb).mp h
theorem zk_nle {a b : Nat} (ha : a < 2 ^ 31) (hb : b < 2 ^ 31) (h : ¬ nI a ≤ nI b) : b < a := Nat.not_le.mp (fun q => h ((nI_leI ha hb).mpr q))
theorem zk_eq {a b : Nat} (ha : a < 2 ^ 31) (hb : b < 2 ^ 31) (h : nI a = nI b) : a = b := (nI_eq ha hb).mp h
theorem zk_neq {a b : Nat} (ha : a < 2 ^ 31) (hb : b < 2 ^ 31) (h : ¬ nI a = nI b) : a ≠ b := fun q => h ((nI_eq ha hb).mpr q)
theorem zk_neqi {a b : Nat} (ha : a < 2 ^ 31) (hb : b < 2 ^ 31) (h : ¬ a = b) : ¬ nI a = nI b := fun q => h ((nI_eq ha hb).mp q)
section ZK
variable {p : Program} {l : Launch} {e : Env} {R : Room} {s : State} {m : MethodId} {args : Array Value} {below : List Frame} {meth : Method} {c : Code} {H : Heap} {locs : List Loc} {cells slots : Nat} {Q : State → Prop}
variable {cc : ByteArray} {pc nL : Nat} {ls : Array Slot} {rest : List Value} {D : va_G} {g : Nat → ClassId} {τ : Nat → Nat} {A : Nat → Prop} {a : Nat} {ws : va_W} {Ts : List Cond} {own : String}
theorem zk_iadd (Z : CallFix p m c cc nL s args Ts own) {x y z : Int32} (hdg : decode cc pc = .ok (.iadd, 1)) (hz : x + y = z) (k : W p l e R s m args below meth c H locs cells slots Q (F0 m (pc + 1) ls (.int z :: rest))) : W p l e R s m args below meth c H locs cells slots Q (F0 m pc ls (.int y :: .int x :: rest)) := by
  subst hz; exact lv_iadd Z.1 Z.2.1 hdg k
theorem zk_isub (Z : CallFix p m c cc nL s args Ts own) {x y z : Int32} (hdg : decode cc pc = .ok (.isub, 1)) (hz : x - y = z) (k : W p l e R s m args below meth c H locs cells slots Q (F0 m (pc + 1) ls (.int z :: rest))) : W p l e R s m args below meth c H locs cells slots Q (F0 m pc ls (.int y :: .int x :: rest)) := by
  subst hz; exact lv_isub Z.1 Z.2.1 hdg k
theorem zk_imul (Z : CallFix p m c cc nL s args Ts own) {x y z : Int32} (hdg : decode cc pc = .ok (.imul, 1)) (hz : x * y = z) (k : W p l e R s m args below meth c H locs cells slots Q (F0 m (pc + 1) ls (.int z :: rest))) : W p l e R s m args below meth c H locs cells slots Q (F0 m pc ls (.int y :: .int x :: rest)) := by
  subst hz; exact lv_imul Z.1 Z.2.1 hdg k
theorem zk_idiv (Z : CallFix p m c cc nL s args Ts own) {x y z : Int32} (hdg : decode cc pc = .ok (.idiv, 1)) (hne : ¬ y = 0) (hz : x / y = z) (k : W p l e R s m args below meth c H locs cells slots Q (F0 m (pc + 1) ls (.int z :: rest))) : W p l e R s m args below meth c H locs cells slots Q (F0 m pc ls (.int y :: .int x :: rest)) := by
  subst hz; exact lv_idiv Z.1 Z.2.1 hdg hne k
theorem zk_irem (Z : CallFix p m c cc nL s args Ts own) {x y z : Int32} (hdg : decode cc pc = .ok (.irem, 1)) (hne : ¬ y = 0) (hz : x - x / y * y = z) (k : W p l e R s m args below meth c H locs cells slots Q (F0 m (pc + 1) ls (.int z :: rest))) : W p l e R s m args below meth c H locs cells slots Q (F0 m pc ls (.int y :: .int x :: rest)) := by
  subst hz; exact lv_irem Z.1 Z.2.1 hdg hne k
theorem zk_iand (Z : CallFix p m c cc nL s args Ts own) {x y z : Int32} (hdg : decode cc pc = .ok (.iand, 1)) (hz : x &&& y = z) (k : W p l e R s m args below meth c H locs cells slots Q (F0 m (pc + 1) ls (.int z :: rest))) : W p l e R s m args below meth c H locs cells slots Q (F0 m pc ls (.int y :: .int x :: rest)) := by
  subst hz; exact lv_iand Z.1 Z.2.1 hdg k
theorem zk_ior (Z : CallFix p m c cc nL s args Ts own) {x y z : Int32} (hdg : decode cc pc = .ok (.ior, 1)) (hz : x ||| y = z) (k : W p l e R s m args below meth c H locs cells slots Q (F0 m (pc + 1) ls (.int z :: rest))) : W p l e R s m args below meth c H locs cells slots Q (F0 m pc ls (.int y :: .int x :: rest)) := by
  subst hz; exact lv_ior Z.1 Z.2.1 hdg k
theorem zk_ixor (Z : CallFix p m c cc nL s args Ts own) {x y z : Int32} (hdg : decode cc pc = .ok (.ixor, 1)) (hz : x ^^^ y = z) (k : W p l e R s m args below meth c H locs cells slots Q (F0 m (pc + 1) ls (.int z :: rest))) : W p l e R s m args below meth c H locs cells slots Q (F0 m pc ls (.int y :: .int x :: rest)) := by
  subst hz; exact lv_ixor Z.1 Z.2.1 hdg k
theorem zk_ishl (Z : CallFix p m c cc nL s args Ts own) {x y z : Int32} (hdg : decode cc pc = .ok (.ishl, 1)) (hz : x <<< (y &&& 31) = z) (k : W p l e R s m args below meth c H locs cells slots Q (F0 m (pc + 1) ls (.int z :: rest))) : W p l e R s m args below meth c H locs cells slots Q (F0 m pc ls (.int y :: .int x :: rest)) := by
  subst hz; exact lv_ishl Z.1 Z.2.1 hdg k
theorem zk_ishr (Z : CallFix p m c cc nL s args Ts own) {x y z : Int32} (hdg : decode cc pc = .ok (.ishr, 1)) (hz : x >>> (y &&& 31) = z) (k : W p l e R s m args below meth c H locs cells slots Q (F0 m (pc + 1) ls (.int z :: rest))) : W p l e R s m args below meth c H locs cells slots Q (F0 m pc ls (.int y :: .int x :: rest)) := by
  subst hz; exact lv_ishr Z.1 Z.2.1 hdg k
theorem zk_ineg (Z : CallFix p m c cc nL s args Ts own) {x z : Int32} (hdg : decode cc pc = .ok (.ineg, 1)) (hz : 0 - x = z) (k : W p l e R s m args below meth c H locs cells slots Q (F0 m (pc + 1) ls (.int z :: rest))) : W p l e R s m args below meth c H locs cells slots Q (F0 m pc ls (.int x :: rest)) := by
  subst hz; exact lv_ineg Z.1 Z.2.1 hdg k
theorem zk_ladd (Z : CallFix p m c cc nL s args Ts own) {x y z : Int64} (hdg : decode cc pc = .ok (.ladd, 1)) (hz : x + y = z) (k : W p l e R s m args below meth c H locs cells slots Q (F0 m (pc + 1) ls (.long z :: rest))) : W p l e R s m args below meth c H locs cells slots Q (F0 m pc ls (.long y :: .long x :: rest)) := by
  subst hz; exact lv_ladd Z.1 Z.2.1 hdg k
theorem zk_lsub (Z : CallFix p m c cc nL s args Ts own) {x y z : Int64} (hdg : decode cc pc = .ok (.lsub, 1)) (hz : x - y = z) (k : W p l e R s m args below meth c H locs cells slots Q (F0 m (pc + 1) ls (.long z :: rest))) : W p l e R s m args below meth c H locs cells slots Q (F0 m pc ls (.long y :: .long x :: rest)) := by
  subst hz; exact lv_lsub Z.1 Z.2.1 hdg k
theorem zk_lmul (Z : CallFix p m c cc nL s args Ts own) {x y z : Int64} (hdg : decode cc pc = .ok (.lmul, 1)) (hz : x * y = z) (k : W p l e R s m args below meth c H locs cells slots Q (F0 m (pc + 1) ls (.long z :: rest))) : W p l e R s m args below meth c H locs cells slots Q (F0 m pc ls (.long y :: .long x :: rest)) := by
  subst hz; exact lv_lmul Z.1 Z.2.1 hdg k
theorem zk_ldiv (Z : CallFix p m c cc nL s args Ts own) {x y z : Int64} (hdg : decode cc pc = .ok (.ldiv, 1)) (hne : ¬ y = 0) (hz : x / y = z) (k : W p l e R s m args below meth c H locs cells slots Q (F0 m (pc + 1) ls (.long z :: rest))) : W p l e R s m args below meth c H locs cells slots Q (F0 m pc ls (.long y :: .long x :: rest)) := by
  subst hz; exact lv_ldiv Z.1 Z.2.1 hdg hne k
theorem zk_lrem (Z : CallFix p m c cc nL s args Ts own) {x y z : Int64} (hdg : decode cc pc = .ok (.lrem, 1)) (hne : ¬ y = 0) (hz : x - x / y * y = z) (k : W p l e R s m args below meth c H locs cells slots Q (F0 m (pc + 1) ls (.long z :: rest))) : W p l e R s m args below meth c H locs cells slots Q (F0 m pc ls (.long y :: .long x :: rest)) := by
  subst hz; exact lv_lrem Z.1 Z.2.1 hdg hne k
theorem zk_lcmp (Z : CallFix p m c cc nL s args Ts own) {x y : Int64} {z : Int32} (hdg : decode cc pc = .ok (.lcmp, 1)) (hz : lg_cmp x y = z) (k : W p l e R s m args below meth c H locs cells slots Q (F0 m (pc + 1) ls (.int z :: rest))) : W p l e R s m args below meth c H locs cells slots Q (F0 m pc ls (.long y :: .long x :: rest)) := by
  subst hz; exact W.lcmp Z.1 Z.2.1 hdg k
theorem zk_get {C ref : String} {T : u_T} {N ci index : Nat} (Z : CallFix p m c cc nL s args Ts own) (hK : va_K D vwCl (zk_TY g) s) (G : zk_G D A ws s H locs) (hin : ∀ w ∈ u_ws C T N, w ∈ Ts) (q0 : Nat) {fs : List Value} (he : ws[q0]? = some (a, .inr (ci, fs))) (hc : vwCl[ci]? = some (C, T, N)) (k : Nat) (hk : k < N) (hm : Cond.fieldLink own index ref (T k).2.1 (T k).2.2.1 ∈ Ts) (hr : ref = (T k).1) {v : Value} (hv : fs[k]? = some v) (hdg : decode cc pc = .ok (.getfield index, 3))
    (kk : W p l e R s m args below meth c H locs cells slots Q (F0 m (pc + 3) ls (v :: rest))) : W p l e R s m args below meth c H locs cells slots Q (F0 m pc ls (.ref a :: rest)) := by
  subst hr
  exact va_get Z.1 Z.2.1 Z.2.2.2.2 hin Z.2.2.2.1 hK G.1 q0 he hc k hk (Z.2.2.2.2 _ hm) (fun _ h => h) hv hdg kk
theorem zk_put {C ref : String} {T : u_T} {N ci index : Nat} (ty0 : Nat → FieldType) (hty : ∀ k, k < N → parseFieldDescriptor (T k).2.2.1 = some (ty0 k)) (hnm : ∀ a, a < N → ∀ b, b < N → a ≠ b → (T a).2.1 ≠ (T b).2.1) (Z : CallFix p m c cc nL s args Ts own) (hK : va_K D vwCl (zk_TY g) s) (G : zk_G D A ws s H locs) (hin : ∀ w ∈ u_ws C T N, w ∈ Ts) (q0 : Nat) {fs : List Value} (he : ws[q0]? = some (a, .inr (ci, fs))) (hc : vwCl[ci]? = some (C, T, N)) (k : Nat) (hk : k < N) (hm : Cond.fieldLink own index ref (T k).2.1 (T k).2.2.1 ∈ Ts) (hr : ref = (T k).1) (hfin : (T k).2.2.2 = false) {v : Value} (hn : narrow (ty0 k) v = v) (hfit : fits (ty0 k) v = true) (hl : k < fs.length) {ws' : va_W} (hw : ws.set q0 (a, .inr (ci, fs.set k v)) = ws') (hdg : decode cc pc = .ok (.putfield index, 3))
    (kk : ∀ (H1 : Heap) (locs1 : List Loc), zk_G D A ws' s H1 locs1 → W p l e R s m args below meth c H1 locs1 cells slots Q (F0 m (pc + 3) ls rest)) : W p l e R s m args below meth c H locs cells slots Q (F0 m pc ls (v :: .ref a :: rest)) := by
  subst hr hw
  exact va_put Z.1 Z.2.1 Z.2.2.2.2 hin ty0 hty hnm Z.2.2.2.1 hK G.1 G.2.1 G.2.2 q0 he hc k hk (Z.2.2.2.2 _ hm) (fun _ h => h) hfin (hty k hk) hn hfit hl hdg (fun H1 locs1 h1 h2 h3 => kk H1 locs1 ⟨h1, h2, h3⟩)
theorem zk_putF {C : String} {T : u_T} {N ci index : Nat} (ty0 : Nat → FieldType) (hty : ∀ k, k < N → parseFieldDescriptor (T k).2.2.1 = some (ty0 k)) (hnm : ∀ a, a < N → ∀ b, b < N → a ≠ b → (T a).2.1 ≠ (T b).2.1) (Z : CallFix p m c cc nL s args Ts own) (hin2 : meth.name = "<init>") (hK : va_K D vwCl (zk_TY g) s) (G : zk_G D A ws s H locs) (hin : ∀ w ∈ u_ws C T N, w ∈ Ts) (q0 : Nat) {fs : List Value} (he : ws[q0]? = some (a, .inr (ci, fs))) (hc : vwCl[ci]? = some (C, T, N)) (k : Nat) (hk : k < N) (hm : Cond.fieldLink own index (T k).1 (T k).2.1 (T k).2.2.1 ∈ Ts) (hfin : (T k).2.2.2 = true) (hdecl : (T k).1 = own) {v : Value} (hn : narrow (ty0 k) v = v) (hfit : fits (ty0 k) v = true) (hl : k < fs.length) {ws' : va_W} (hw : ws.set q0 (a, .inr (ci, fs.set k v)) = ws') (hdg : decode cc pc = .ok (.putfield index, 3))
    (kk : ∀ (H1 : Heap) (locs1 : List Loc), zk_G D A ws' s H1 locs1 → W p l e R s m args below meth c H1 locs1 cells slots Q (F0 m (pc + 3) ls rest)) : W p l e R s m args below meth c H locs cells slots Q (F0 m pc ls (v :: .ref a :: rest)) := by
  subst hw
  exact va_putF Z.1 Z.2.1 Z.2.2.2.2 hin ty0 hty hnm Z.2.2.2.1 hK G.1 G.2.1 G.2.2 q0 he hc k hk (Z.2.2.2.2 _ hm) (fun _ h => h) hfin hin2 hdecl (hty k hk) hn hfit hl hdg (fun H1 locs1 h1 h2 h3 => kk H1 locs1 ⟨h1, h2, h3⟩)
theorem zk_iald (Z : CallFix p m c cc nL s args Ts own) (hK : va_K D vwCl (zk_TY g) s) (G : zk_G D A ws s H locs) (q0 : Nat) {n : Nat} {f : Nat → Int32} (ha : ws[q0]? = some (a, .inl (g 0, n, .inl f))) {k : Nat} (hk : k < n) (hn : n < 2 ^ 31) {v : Int32} (hv : f k = v) (hdg : decode cc pc = .ok (.iaload, 1))
    (kk : W p l e R s m args below meth c H locs cells slots Q (F0 m (pc + 1) ls (.int v :: rest))) : W p l e R s m args below meth c H locs cells slots Q (F0 m pc ls (.int (nI k) :: .ref a :: rest)) := by
  subst hv
  have e : (nI k).toNatClampNeg = k := nI_clamp (Nat.lt_trans hk hn)
  refine va_iald Z.1 Z.2.1 hK G.1 q0 0 ha rfl (vp_in_nI hk hn) hdg ?_
  rw [e]; exact kk
theorem zk_bald (Z : CallFix p m c cc nL s args Ts own) (hK : va_K D vwCl (zk_TY g) s) (G : zk_G D A ws s H locs) (q0 : Nat) {n : Nat} {f : Nat → Int32} (ha : ws[q0]? = some (a, .inl (g 2, n, .inl f))) {k : Nat} (hk : k < n) (hn : n < 2 ^ 31) {v : Int32} (hv : f k = v) (hdg : decode cc pc = .ok (.baload, 1))
    (kk : W p l e R s m args below meth c H locs cells slots Q (F0 m (pc + 1) ls (.int v :: rest))) : W p l e R s m args below meth c H locs cells slots Q (F0 m pc ls (.int (nI k) :: .ref a :: rest)) := by
  subst hv
  have e : (nI k).toNatClampNeg = k := nI_clamp (Nat.lt_trans hk hn)
  refine va_bald Z.1 Z.2.1 hK G.1 q0 2 ha rfl (vp_in_nI hk hn) hdg ?_
  rw [e]; exact kk
theorem zk_zald (Z : CallFix p m c cc nL s args Ts own) (hK : va_K D vwCl (zk_TY g) s) (G : zk_G D A ws s H locs) (q0 : Nat) {n : Nat} {f : Nat → Int32} (ha : ws[q0]? = some (a, .inl (g 3, n, .inl f))) {k : Nat} (hk : k < n) (hn : n < 2 ^ 31) {v : Int32} (hv : f k = v) (hdg : decode cc pc = .ok (.baload, 1))
    (kk : W p l e R s m args below meth c H locs cells slots Q (F0 m (pc + 1) ls (.int v :: rest))) : W p l e R s m args below meth c H locs cells slots Q (F0 m pc ls (.int (nI k) :: .ref a :: rest)) := by
  subst hv
  have e : (nI k).toNatClampNeg = k := nI_clamp (Nat.lt_trans hk hn)
  refine va_zald Z.1 Z.2.1 hK G.1 q0 3 ha rfl (vp_in_nI hk hn) hdg ?_
  rw [e]; exact kk
theorem zk_lald (Z : CallFix p m c cc nL s args Ts own) (hK : va_K D vwCl (zk_TY g) s) (G : zk_G D A ws s H locs) (q0 : Nat) {n : Nat} {f : Nat → Int64} (ha : ws[q0]? = some (a, .inl (g 1, n, .inr (.inl f)))) {k : Nat} (hk : k < n) (hn : n < 2 ^ 31) {v : Int64} (hv : f k = v) (hdg : decode cc pc = .ok (.laload, 1))
    (kk : W p l e R s m args below meth c H locs cells slots Q (F0 m (pc + 1) ls (.long v :: rest))) : W p l e R s m args below meth c H locs cells slots Q (F0 m pc ls (.int (nI k) :: .ref a :: rest)) := by
  subst hv
  have e : (nI k).toNatClampNeg = k := nI_clamp (Nat.lt_trans hk hn)
  refine va_lald Z.1 Z.2.1 hK G.1 q0 1 ha rfl (vp_in_nI hk hn) hdg ?_
  rw [e]; exact kk
theorem zk_iast (Z : CallFix p m c cc nL s args Ts own) (hK : va_K D vwCl (zk_TY g) s) (G : zk_G D A ws s H locs) (q0 : Nat) {n : Nat} {f : Nat → Int32} (ha : ws[q0]? = some (a, .inl (g 0, n, .inl f))) {k : Nat} (hk : k < n) (hn : n < 2 ^ 31) {x : Int32} {f' : Nat → Int32} (hf : upd f k x = f') {ws' : va_W} (hw : ws.set q0 (a, .inl (g 0, n, .inl f')) = ws') (hdg : decode cc pc = .ok (.iastore, 1))
    (kk : ∀ (H1 : Heap) (locs1 : List Loc), zk_G D A ws' s H1 locs1 → W p l e R s m args below meth c H1 locs1 cells slots Q (F0 m (pc + 1) ls rest)) : W p l e R s m args below meth c H locs cells slots Q (F0 m pc ls (.int x :: .int (nI k) :: .ref a :: rest)) := by
  have e : (nI k).toNatClampNeg = k := nI_clamp (Nat.lt_trans hk hn)
  subst hf hw
  refine va_iast Z.1 Z.2.1 hK G.1 G.2.1 G.2.2 q0 0 ha rfl (vp_in_nI hk hn) hdg (fun H1 locs1 h1 h2 h3 => ?_)
  rw [e] at h1 h2
  exact kk H1 locs1 ⟨h1, h2, h3⟩
theorem zk_bast (Z : CallFix p m c cc nL s args Ts own) (hK : va_K D vwCl (zk_TY g) s) (G : zk_G D A ws s H locs) (q0 : Nat) {n : Nat} {f : Nat → Int32} (ha : ws[q0]? = some (a, .inl (g 2, n, .inl f))) {k : Nat} (hk : k < n) (hn : n < 2 ^ 31) {x : Int32} {f' : Nat → Int32} (hf : upd f k (vp_nar .byte x) = f') {ws' : va_W} (hw : ws.set q0 (a, .inl (g 2, n, .inl f')) = ws') (hdg : decode cc pc = .ok (.bastore, 1))
    (kk : ∀ (H1 : Heap) (locs1 : List Loc), zk_G D A ws' s H1 locs1 → W p l e R s m args below meth c H1 locs1 cells slots Q (F0 m (pc + 1) ls rest)) : W p l e R s m args below meth c H locs cells slots Q (F0 m pc ls (.int x :: .int (nI k) :: .ref a :: rest)) := by
  have e : (nI k).toNatClampNeg = k := nI_clamp (Nat.lt_trans hk hn)
  subst hf hw
  refine va_bast Z.1 Z.2.1 hK G.1 G.2.1 G.2.2 q0 2 ha rfl (vp_in_nI hk hn) hdg (fun H1 locs1 h1 h2 h3 => ?_)
  rw [e] at h1 h2
  exact kk H1 locs1 ⟨h1, h2, h3⟩
theorem zk_zast (Z : CallFix p m c cc nL s args Ts own) (hK : va_K D vwCl (zk_TY g) s) (G : zk_G D A ws s H locs) (q0 : Nat) {n : Nat} {f : Nat → Int32} (ha : ws[q0]? = some (a, .inl (g 3, n, .inl f))) {k : Nat} (hk : k < n) (hn : n < 2 ^ 31) {x : Int32} {f' : Nat → Int32} (hf : upd f k (vp_nar .boolean x) = f') {ws' : va_W} (hw : ws.set q0 (a, .inl (g 3, n, .inl f')) = ws') (hdg : decode cc pc = .ok (.bastore, 1))
    (kk : ∀ (H1 : Heap) (locs1 : List Loc), zk_G D A ws' s H1 locs1 → W p l e R s m args below meth c H1 locs1 cells slots Q (F0 m (pc + 1) ls rest)) : W p l e R s m args below meth c H locs cells slots Q (F0 m pc ls (.int x :: .int (nI k) :: .ref a :: rest)) := by
  have e : (nI k).toNatClampNeg = k := nI_clamp (Nat.lt_trans hk hn)
  subst hf hw
  refine va_zast Z.1 Z.2.1 hK G.1 G.2.1 G.2.2 q0 3 ha rfl (vp_in_nI hk hn) hdg (fun H1 locs1 h1 h2 h3 => ?_)
  rw [e] at h1 h2
  exact kk H1 locs1 ⟨h1, h2, h3⟩
theorem zk_last (Z : CallFix p m c cc nL s args Ts own) (hK : va_K D vwCl (zk_TY g) s) (G : zk_G D A ws s H locs) (q0 : Nat) {n : Nat} {f : Nat → Int64} (ha : ws[q0]? = some (a, .inl (g 1, n, .inr (.inl f)))) {k : Nat} (hk : k < n) (hn : n < 2 ^ 31) {x : Int64} {f' : Nat → Int64} (hf : vp_updL f k x = f') {ws' : va_W} (hw : ws.set q0 (a, .inl (g 1, n, .inr (.inl f'))) = ws') (hdg : decode cc pc = .ok (.lastore, 1))
    (kk : ∀ (H1 : Heap) (locs1 : List Loc), zk_G D A ws' s H1 locs1 → W p l e R s m args below meth c H1 locs1 cells slots Q (F0 m (pc + 1) ls rest)) : W p l e R s m args below meth c H locs cells slots Q (F0 m pc ls (.long x :: .int (nI k) :: .ref a :: rest)) := by
  have e : (nI k).toNatClampNeg = k := nI_clamp (Nat.lt_trans hk hn)
  subst hf hw
  refine va_last Z.1 Z.2.1 hK G.1 G.2.1 G.2.2 q0 1 ha rfl (vp_in_nI hk hn) hdg (fun H1 locs1 h1 h2 h3 => ?_)
  rw [e] at h1 h2
  exact kk H1 locs1 ⟨h1, h2, h3⟩
theorem zk_alen (Z : CallFix p m c cc nL s args Ts own) (hK : va_K D vwCl (zk_TY g) s) (G : zk_G D A ws s H locs) (q0 t0 : Nat) {cA : ClassId} {x : vp_A} (ha : ws[q0]? = some (a, .inl (cA, x))) {ty : FieldType} (ht : (zk_TY g)[t0]? = some (cA, ty)) {v : Int32} (hv : nI x.1 = v) (hdg : decode cc pc = .ok (.arraylength, 1))
    (kk : W p l e R s m args below meth c H locs cells slots Q (F0 m (pc + 1) ls (.int v :: rest))) : W p l e R s m args below meth c H locs cells slots Q (F0 m pc ls (.ref a :: rest)) :=
  va_alen Z.1 Z.2.1 hK G.1 q0 t0 ha ht hv hdg kk
theorem zk_gets (Z : CallFix p m c cc nL s args Ts own) (G : zk_G D A ws s H locs) {C n : String} {t N index : Nat} {f : Nat → Value} (h : zk_tab C n N t f A s s.heap) (hm : Cond.fieldLink own index C n "[I" ∈ Ts) (hdg : decode cc pc = .ok (.getstatic index, 3))
    (kk : W p l e R s m args below meth c H locs cells slots Q (F0 m (pc + 3) ls (.ref t :: rest))) : W p l e R s m args below meth c H locs cells slots Q (F0 m pc ls rest) :=
  va_gets Z.1 Z.2.1 h.1 G.2.2 Z.2.2.2.1 (Z.2.2.2.2 _ hm) (fun _ q => q) hdg kk
theorem zk_ti (Z : CallFix p m c cc nL s args Ts own) (G : zk_G D A ws s H locs) {C n : String} {t N : Nat} {f : Nat → Value} (h : zk_tab C n N t f A s s.heap) {k : Nat} (hk : k < N) (hN : N < 2 ^ 31) {v : Value} (hv : f k = v) (hdg : decode cc pc = .ok (.iaload, 1))
    (kk : W p l e R s m args below meth c H locs cells slots Q (F0 m (pc + 1) ls (v :: rest))) : W p l e R s m args below meth c H locs cells slots Q (F0 m pc ls (.int (nI k) :: .ref t :: rest)) := by
  have e : (nI k).toNatClampNeg = k := nI_clamp (Nat.lt_trans hk hN)
  exact va_ti Z.1 Z.2.1 h.2 G.2.2 (vp_in_nI hk hN) (by rw [e]; exact hv) hdg kk
theorem zk_max (Z : CallFix p m c cc nL s args Ts own) {index : Nat} (hsz : ls.size = nL) (h1 : Cond.methodLink own index Lib.Math.max.name ∈ Ts) (h2 : Cond.static Lib.Math.max.name ∈ Ts) (h3 : Cond.initialized "java/lang/Math" ∈ Ts) (h4 : Cond.code Lib.Math.max.name Lib.Math.max.code 2 (some .int) ∈ Ts) (hf : 1 ≤ R.frames) (hlo : (rest.map fun v => v.category).sum + 13 ≤ R.locals) (hc : cells ≤ R.cells) (hs : slots ≤ R.slots) {x y z : Int32} (hz : (if x < y then y else x) = z) (hdg : decode cc pc = .ok (.invokestatic index, 3))
    (kk : W p l e R s m args below meth c H locs cells slots Q (F0 m (pc + 3) ls (.int z :: rest))) : W p l e R s m args below meth c H locs cells slots Q (F0 m pc ls (.int y :: .int x :: rest)) := by
  subst hz
  exact va_mmax Z.1 Z.2.1 (Z.2.2.1.trans hsz.symm) Z.2.2.2.1 (Z.2.2.2.2 _ h1) (Z.2.2.2.2 _ h2) (Z.2.2.2.2 _ h3) (Z.2.2.2.2 _ h4) hf hlo hc hs hdg kk
theorem zk_min (Z : CallFix p m c cc nL s args Ts own) {index : Nat} (hsz : ls.size = nL) (h1 : Cond.methodLink own index Lib.Math.min.name ∈ Ts) (h2 : Cond.static Lib.Math.min.name ∈ Ts) (h3 : Cond.initialized "java/lang/Math" ∈ Ts) (h4 : Cond.code Lib.Math.min.name Lib.Math.min.code 2 (some .int) ∈ Ts) (hf : 1 ≤ R.frames) (hlo : (rest.map fun v => v.category).sum + 13 ≤ R.locals) (hc : cells ≤ R.cells) (hs : slots ≤ R.slots) {x y z : Int32} (hz : (if y < x then y else x) = z) (hdg : decode cc pc = .ok (.invokestatic index, 3))
    (kk : W p l e R s m args below meth c H locs cells slots Q (F0 m (pc + 3) ls (.int z :: rest))) : W p l e R s m args below meth c H locs cells slots Q (F0 m pc ls (.int y :: .int x :: rest)) := by
  subst hz
  exact va_mmin Z.1 Z.2.1 (Z.2.2.1.trans hsz.symm) Z.2.2.2.1 (Z.2.2.2.2 _ h1) (Z.2.2.2.2 _ h2) (Z.2.2.2.2 _ h3) (Z.2.2.2.2 _ h4) hf hlo hc hs hdg kk
theorem zk_abs (Z : CallFix p m c cc nL s args Ts own) {index : Nat} (hsz : ls.size = nL) (h1 : Cond.methodLink own index Lib.Math.abs.name ∈ Ts) (h2 : Cond.static Lib.Math.abs.name ∈ Ts) (h3 : Cond.initialized "java/lang/Math" ∈ Ts) (h4 : Cond.code Lib.Math.abs.name Lib.Math.abs.code 1 (some .int) ∈ Ts) (hf : 1 ≤ R.frames) (hlo : (rest.map fun v => v.category).sum + 13 ≤ R.locals) (hc : cells ≤ R.cells) (hs : slots ≤ R.slots) {x z : Int32} (hz : (if 0 ≤ x then x else 0 - x) = z) (hdg : decode cc pc = .ok (.invokestatic index, 3))
    (kk : W p l e R s m args below meth c H locs cells slots Q (F0 m (pc + 3) ls (.int z :: rest))) : W p l e R s m args below meth c H locs cells slots Q (F0 m pc ls (.int x :: rest)) := by
  subst hz
  exact va_mabs Z.1 Z.2.1 (Z.2.2.1.trans hsz.symm) Z.2.2.2.1 (Z.2.2.2.2 _ h1) (Z.2.2.2.2 _ h2) (Z.2.2.2.2 _ h3) (Z.2.2.2.2 _ h4) hf hlo hc hs hdg kk
/-- behind a call: the callee's cells are put back to their places -/
theorem zk_back {wc wr w1 wf : va_W} {H1 : Heap} {locs1 : List Loc} (G : zk_G D A ws s H locs) (isC isR isF : List Nat) (hC : isC.map (fun i => ws[i]?) = wc.map some) (hR : isR.map (fun i => ws[i]?) = wr.map some) (hn : va_nd isR = true) (hdis : ∀ i ∈ isR, i ∉ isC)
    (hk : ∀ q : Nat, q < H.size → ¬ va_A wc H.size q → H1[q]? = H[q]?) (hF : ∀ q, va_A wc H.size q → A q) (hP1 : va_P D vwCl w1 H1) (hD1 : va_D (va_A wc H.size) w1) (hnF : va_nd isF = true) (hf : isF.map (fun i => (wr ++ w1)[i]?) = wf.map some) (hS : va_S A s.heap H1 locs1) : zk_G D A wf s H1 locs1 := by
  obtain ⟨h1, h2⟩ := va_join G.1 G.2.1 isC isR hC hR hn hdis hk hF hP1 hD1
  have e : isF.filterMap (fun i => (wr ++ w1)[i]?) = wf := by
    have : isF.filterMap (fun i => (wr ++ w1)[i]?) = (isF.map (fun i => (wr ++ w1)[i]?)).filterMap id := by
      rw [List.filterMap_map]; rfl
    rw [this, hf, List.filterMap_map]
    exact List.filterMap_some
  exact ⟨h1.sub isF e, h2.sub isF hnF hf, hS⟩
theorem zk_pre {wc : va_W} {As : List Value} (hK : va_K D vwCl (zk_TY g) s) (hT : zk_ST τ A s s.heap) (hA : ∀ q, s.heap.size ≤ q → A q) (G : zk_G D A ws s H locs) (isC : List Nat) (hC : isC.map (fun i => ws[i]?) = wc.map some) (hnC : va_nd isC = true) : PreS s H (zk_Pc D g τ As wc H.size) As := by
  have hF := va_free G.2.1 G.2.2 hA isC hC
  have hPc : va_P D vwCl wc H := by
    refine G.1.sub isC ?_
    have : isC.filterMap (fun i => ws[i]?) = (isC.map (fun i => ws[i]?)).filterMap id := by
      rw [List.filterMap_map]; rfl
    rw [this, hC, List.filterMap_map]
    exact List.filterMap_some
  refine ⟨fun a U f mk q => ?_, fun U hU hW => ⟨rfl, by rw [hU], by rw [hU]; exact hPc, va_K.moved hW.alike hK, (G.2.1.sub isC hnC hC).self, by rw [hU]; exact hT.to G.2.2 hF hW⟩⟩
  obtain ⟨q0, q1, q2, q3, q4, q5⟩ := q
  exact ⟨q0, q1, q2, va_K.moved (u := U) (U := U.calling f mk a) (Vm.Alike.refl U.vm) q3, q4, q5.same rfl⟩
theorem zk_preV {wc : va_W} {b : Addr} {As : List Value} {q0 ci : Nat} {r : vw_C} {fs : List Value} (hK : va_K D vwCl (zk_TY g) s) (hT : zk_ST τ A s s.heap) (hA : ∀ q, s.heap.size ≤ q → A q) (G : zk_G D A ws s H locs) (isC : List Nat) (hC : isC.map (fun i => ws[i]?) = wc.map some) (hnC : va_nd isC = true) (he : ws[q0]? = some (b, .inr (ci, fs))) (hc : vwCl[ci]? = some r) : PreV s H r.1 b (zk_Pc D g τ (.ref b :: As) wc H.size) As := by
  have h := zk_pre (As := .ref b :: As) hK hT hA G isC hC hnC
  exact ⟨h.1, va_recv hK G.1 hc he, h.2⟩
theorem zk_ci {S : Type} {post : Int32 → S → Prop} {W1 WF : S → va_W} {wc wr : va_W} {mc ms : Nat} {st0 : List Value} {aa : Array Value} (h0 : mc = 0 ∧ ms = 0) (hr : va_Run p l e R s m args below meth c H locs cells slots mc ms (F0 m pc ls st0) rest (va_Qi post (zk_B D g (va_A wc H.size) W1) (va_A wc H.size) aa) (va_A wc H.size)) (hA : ∀ q, s.heap.size ≤ q → A q) (G : zk_G D A ws s H locs) (isC isR isF : List Nat) (hC : isC.map (fun i => ws[i]?) = wc.map some) (hR : isR.map (fun i => ws[i]?) = wr.map some) (hn : va_nd isR = true) (hdis : ∀ i ∈ isR, i ∉ isC) (hnF : va_nd isF = true) (hf : ∀ u, isF.map (fun i => (wr ++ W1 u)[i]?) = (WF u).map some)
    (kk : ∀ (r : Int32) (u : S) (H1 : Heap) (locs1 : List Loc), post r u → zk_G D A (WF u) s H1 locs1 → W p l e R s m args below meth c H1 locs1 cells slots Q (F0 m (pc + 3) ls (.int r :: rest))) : W p l e R s m args below meth c H locs cells slots Q (F0 m pc ls st0) := by
  obtain ⟨rfl, rfl⟩ := h0
  have hF := va_free G.2.1 G.2.2 hA isC hC
  refine va_calli hr G.2.2 (fun q _ h => hF q h) hF (fun r u t H1 locs1 ht hvm hw hB hz1 hk1 hS => ?_)
  obtain ⟨hP1, hK1, hD1⟩ := hB
  rw [ht] at hP1
  exact kk r u H1 locs1 hw (zk_back G isC isR isF hC hR hn hdis hk1 hF hP1 hD1 hnF (hf u) hS)
theorem zk_cl {S : Type} {post : Int64 → S → Prop} {W1 WF : S → va_W} {wc wr : va_W} {mc ms : Nat} {st0 : List Value} {aa : Array Value} (h0 : mc = 0 ∧ ms = 0) (hr : va_Run p l e R s m args below meth c H locs cells slots mc ms (F0 m pc ls st0) rest (va_Ql post (zk_B D g (va_A wc H.size) W1) (va_A wc H.size) aa) (va_A wc H.size)) (hA : ∀ q, s.heap.size ≤ q → A q) (G : zk_G D A ws s H locs) (isC isR isF : List Nat) (hC : isC.map (fun i => ws[i]?) = wc.map some) (hR : isR.map (fun i => ws[i]?) = wr.map some) (hn : va_nd isR = true) (hdis : ∀ i ∈ isR, i ∉ isC) (hnF : va_nd isF = true) (hf : ∀ u, isF.map (fun i => (wr ++ W1 u)[i]?) = (WF u).map some)
    (kk : ∀ (r : Int64) (u : S) (H1 : Heap) (locs1 : List Loc), post r u → zk_G D A (WF u) s H1 locs1 → W p l e R s m args below meth c H1 locs1 cells slots Q (F0 m (pc + 3) ls (.long r :: rest))) : W p l e R s m args below meth c H locs cells slots Q (F0 m pc ls st0) := by
  obtain ⟨rfl, rfl⟩ := h0
  have hF := va_free G.2.1 G.2.2 hA isC hC
  refine va_calll hr G.2.2 (fun q _ h => hF q h) hF (fun r u t H1 locs1 ht hvm hw hB hz1 hk1 hS => ?_)
  obtain ⟨hP1, hK1, hD1⟩ := hB
  rw [ht] at hP1
  exact kk r u H1 locs1 hw (zk_back G isC isR isF hC hR hn hdis hk1 hF hP1 hD1 hnF (hf u) hS)
theorem zk_cv {S : Type} {post : S → Prop} {W1 WF : S → va_W} {wc wr : va_W} {mc ms : Nat} {st0 : List Value} {aa : Array Value} (h0 : mc = 0 ∧ ms = 0) (hr : va_Run p l e R s m args below meth c H locs cells slots mc ms (F0 m pc ls st0) rest (va_Qv post (zk_B D g (va_A wc H.size) W1) (va_A wc H.size) aa) (va_A wc H.size)) (hA : ∀ q, s.heap.size ≤ q → A q) (G : zk_G D A ws s H locs) (isC isR isF : List Nat) (hC : isC.map (fun i => ws[i]?) = wc.map some) (hR : isR.map (fun i => ws[i]?) = wr.map some) (hn : va_nd isR = true) (hdis : ∀ i ∈ isR, i ∉ isC) (hnF : va_nd isF = true) (hf : ∀ u, isF.map (fun i => (wr ++ W1 u)[i]?) = (WF u).map some)
    (kk : ∀ (u : S) (H1 : Heap) (locs1 : List Loc), post u → zk_G D A (WF u) s H1 locs1 → W p l e R s m args below meth c H1 locs1 cells slots Q (F0 m (pc + 3) ls rest)) : W p l e R s m args below meth c H locs cells slots Q (F0 m pc ls st0) := by
  obtain ⟨rfl, rfl⟩ := h0
  have hF := va_free G.2.1 G.2.2 hA isC hC
  refine va_callv hr G.2.2 (fun q _ h => hF q h) hF (fun u t H1 locs1 ht hvm hw hB hz1 hk1 hS => ?_)
  obtain ⟨hP1, hK1, hD1⟩ := hB
  rw [ht] at hP1
  exact kk u H1 locs1 hw (zk_back G isC isR isF hC hR hn hdis hk1 hF hP1 hD1 hnF (hf u) hS)
abbrev zk_dv (y : MethodName) (C : String) (n : Nat) : Prop := y.cls = C ∧ y.cls ≠ "java/lang/invoke/MethodHandle" ∧ y.cls ≠ "java/lang/invoke/VarHandle" ∧ (parseMethodDescriptor y.desc).map (fun d => d.parameters.length) = some n
/-- the run of a virtual call, a static one, one of a nest mate's private static -/
theorem zk_rv {Qc : Array Value → State → Outcome → State → Prop} {y : MethodName} {wd ws' : List Cond} {rm : Room} {wc : va_W} {b : Addr} {As st0 : List Value} {bytes : ByteArray} {maxL n index : Nat} {ret : Option FieldType} {q0 ci : Nat} {r : vw_C} {fs : List Value} (Z : CallFix p m c cc nL s args Ts own) (hM : Met l y wd rm (zk_Pc D g τ (.ref b :: As) wc H.size) Qc rm.cells rm.slots (va_A wc H.size)) (hK : va_K D vwCl (zk_TY g) s) (hT : zk_ST τ A s s.heap) (hA : ∀ q, s.heap.size ≤ q → A q) (G : zk_G D A ws s H locs) (isC : List Nat) (hC : isC.map (fun i => ws[i]?) = wc.map some) (hnC : va_nd isC = true) (he : ws[q0]? = some (b, .inr (ci, fs))) (hc : vwCl[ci]? = some r) (hG : GoodIn Ts (wsV own index r.1 y wd)) (hw : wd = Cond.code y bytes maxL ret :: ws') (hd : zk_dv y r.1 n) (hR : rm.frames + 1 ≤ R.frames ∧ 8 + (maxL + 11) + rm.locals ≤ R.locals) (hn : As.length = n) (hsize : ls.size = nL) (hst : st0 = As.reverse ++ .ref b :: rest) (hrm : (rest.map fun v => v.category).sum ≤ 8) (hdg : decode cc pc = .ok (.invokevirtual index, 3)) (hf : cells + rm.cells ≤ R.cells ∧ slots + rm.slots ≤ R.slots) :
    va_Run p l e R s m args below meth c H locs cells slots rm.cells rm.slots (F0 m pc ls st0) rest (Qc (Value.ref b :: As).toArray) (va_A wc H.size) := by
  subst hst
  exact va_runV Z hM (cwV n Z.2.2.2.2 hG hw rfl rfl hd hR) (zk_preV hK hT hA G isC hC hnC he hc) rfl hn hsize rfl (lv_room hrm) hdg hf
theorem zk_rs {Qc : Array Value → State → Outcome → State → Prop} {y : MethodName} {wd ws' : List Cond} {rm : Room} {wc : va_W} {As st0 : List Value} {bytes : ByteArray} {maxL n index : Nat} {ret : Option FieldType} (Z : CallFix p m c cc nL s args Ts own) (hM : Met l y wd rm (zk_Pc D g τ As wc H.size) Qc rm.cells rm.slots (va_A wc H.size)) (hK : va_K D vwCl (zk_TY g) s) (hT : zk_ST τ A s s.heap) (hA : ∀ q, s.heap.size ≤ q → A q) (G : zk_G D A ws s H locs) (isC : List Nat) (hC : isC.map (fun i => ws[i]?) = wc.map some) (hnC : va_nd isC = true) (hG : GoodIn Ts (va_wsS own index y wd)) (hw : wd = Cond.code y bytes maxL ret :: ws') (hd : zk_dv y y.cls n) (hR : rm.frames + 1 ≤ R.frames ∧ 8 + (maxL + 11) + rm.locals ≤ R.locals) (hn : As.length = n) (hsize : ls.size = nL) (hst : st0 = As.reverse ++ rest) (hrm : (rest.map fun v => v.category).sum ≤ 8) (hdg : decode cc pc = .ok (.invokestatic index, 3)) (hf : cells + rm.cells ≤ R.cells ∧ slots + rm.slots ≤ R.slots) :
    va_Run p l e R s m args below meth c H locs cells slots rm.cells rm.slots (F0 m pc ls st0) rest (Qc As.toArray) (va_A wc H.size) := by
  subst hst
  exact va_runS Z hM (va_cwS n Z.2.2.2.2 hG hw rfl rfl hd.2 hR) (zk_pre hK hT hA G isC hC hnC) rfl hn hsize rfl (lv_room hrm) hdg hf
theorem zk_rn {Qc : Array Value → State → Outcome → State → Prop} {y : MethodName} {host : String} {wd ws' : List Cond} {rm : Room} {wc : va_W} {As st0 : List Value} {bytes : ByteArray} {maxL n index : Nat} {ret : Option FieldType} (Z : CallFix p m c cc nL s args Ts own) (hM : Met l y wd rm (zk_Pc D g τ As wc H.size) Qc rm.cells rm.slots (va_A wc H.size)) (hK : va_K D vwCl (zk_TY g) s) (hT : zk_ST τ A s s.heap) (hA : ∀ q, s.heap.size ≤ q → A q) (G : zk_G D A ws s H locs) (isC : List Nat) (hC : isC.map (fun i => ws[i]?) = wc.map some) (hnC : va_nd isC = true) (hG : GoodIn Ts wd) (hw : wd = Cond.code y bytes maxL ret :: ws') (hnest : va_Nw (.methodLinkNest own index y host) s) (hst1 : Cond.static y ∈ Ts) (hini : Cond.initialized y.cls ∈ Ts) (hd : zk_dv y y.cls n) (hR : rm.frames + 1 ≤ R.frames ∧ 8 + (maxL + 11) + rm.locals ≤ R.locals) (hn : As.length = n) (hsize : ls.size = nL) (hst : st0 = As.reverse ++ rest) (hrm : (rest.map fun v => v.category).sum ≤ 8) (hdg : decode cc pc = .ok (.invokestatic index, 3)) (hf : cells + rm.cells ≤ R.cells ∧ slots + rm.slots ≤ R.slots) :
    va_Run p l e R s m args below meth c H locs cells slots rm.cells rm.slots (F0 m pc ls st0) rest (Qc As.toArray) (va_A wc H.size) := by
  subst hst
  exact va_runSN Z hM ⟨va_cnB n Z.2.2.2.2 hG hw rfl rfl hnest (Z.2.2.2.2 _ hini) hd.2 hR, Z.2.2.2.2 _ hst1, trivial⟩ (zk_pre hK hT hA G isC hC hnC) rfl hn hsize rfl (lv_room hrm) hdg hf
theorem zk_reti {S : Type} {post : Int32 → S → Prop} {W1 : S → va_W} {v : Int32} (Z : CallFix p m c cc nL s args Ts own) (hr : meth.sig.returnType = some .int) (hlk : meth.locks = false) (hK : va_K D vwCl (zk_TY g) s) (hQ : Q = MQ below (va_Qi post (zk_B D g A W1) A) args s cells slots A) (G : zk_G D A ws s H locs) (u : S) (hp : post v u) (hw : ws = W1 u) (hdg : decode cc pc = .ok (.ireturn, 1)) : W p l e R s m args below meth c H locs cells slots Q (F0 m pc ls [.int v]) := by
  subst hw hQ
  exact W.iret Z.1 Z.2.1 hr (fun t ht hW => ⟨⟨v, u, rfl, hp, by rw [ht]; exact G.1, va_K.moved hW.alike hK, G.2.1⟩, G.2.2.F ht⟩) G.2.2.2.2 hdg hlk
theorem zk_retz {S : Type} {post : Int32 → S → Prop} {W1 : S → va_W} {b : Bool} (Z : CallFix p m c cc nL s args Ts own) (hr : meth.sig.returnType = some .boolean) (hlk : meth.locks = false) (hK : va_K D vwCl (zk_TY g) s) (hQ : Q = MQ below (va_Qi post (zk_B D g A W1) A) args s cells slots A) (G : zk_G D A ws s H locs) (u : S) (hp : post (zk_b b) u) (hw : ws = W1 u) (hdg : decode cc pc = .ok (.ireturn, 1)) : W p l e R s m args below meth c H locs cells slots Q (F0 m pc ls [.int (zk_b b)]) := by
  subst hw hQ
  exact W.zret Z.1 Z.2.1 hr zk_bnar (fun t ht hW => ⟨⟨zk_b b, u, rfl, hp, by rw [ht]; exact G.1, va_K.moved hW.alike hK, G.2.1⟩, G.2.2.F ht⟩) G.2.2.2.2 hdg hlk
theorem zk_retl {S : Type} {post : Int64 → S → Prop} {W1 : S → va_W} {v : Int64} (Z : CallFix p m c cc nL s args Ts own) (hr : meth.sig.returnType = some .long) (hlk : meth.locks = false) (hK : va_K D vwCl (zk_TY g) s) (hQ : Q = MQ below (va_Ql post (zk_B D g A W1) A) args s cells slots A) (G : zk_G D A ws s H locs) (u : S) (hp : post v u) (hw : ws = W1 u) (hdg : decode cc pc = .ok (.lreturn, 1)) : W p l e R s m args below meth c H locs cells slots Q (F0 m pc ls [.long v]) := by
  subst hw hQ
  exact W.lret Z.1 Z.2.1 hr (fun t ht hW => ⟨⟨v, u, rfl, hp, by rw [ht]; exact G.1, va_K.moved hW.alike hK, G.2.1⟩, G.2.2.F ht⟩) G.2.2.2.2 hdg hlk
theorem zk_retv {S : Type} {post : S → Prop} {W1 : S → va_W} (Z : CallFix p m c cc nL s args Ts own) (hr : meth.sig.returnType = none) (hlk : meth.locks = false) (hK : va_K D vwCl (zk_TY g) s) (hQ : Q = MQ below (va_Qv post (zk_B D g A W1) A) args s cells slots A) (G : zk_G D A ws s H locs) (u : S) (hp : post u) (hw : ws = W1 u) (hdg : decode cc pc = .ok (.return_, 1)) : W p l e R s m args below meth c H locs cells slots Q (F0 m pc ls []) := by
  subst hw hQ
  exact W.vret Z.1 Z.2.1 hr (fun t ht hW => ⟨⟨u, rfl, hp, by rw [ht]; exact G.1, va_K.moved hW.alike hK, G.2.1⟩, G.2.2.F ht⟩) G.2.2.2.2 hdg hlk
theorem zk_copyi (Z : CallFix p m c cc nL s args Ts own) {index : Nat} (hsz : ls.size = nL) (h1 : Cond.methodLink own index arraycopyName ∈ Ts) (h2 : Cond.native arraycopyName ∈ Ts) (h3 : Cond.static arraycopyName ∈ Ts) (h4 : Cond.initialized "java/lang/System" ∈ Ts) (hK : va_K D vwCl (zk_TY g) s) (G : zk_G D A ws s H locs) (q0 q1 : Nat) {a0 : Nat} {n0 n1 : Nat} {f gg : Nat → Int32} (ha0 : ws[q0]? = some (a0, .inl (g 0, n0, .inl f))) (ha1 : ws[q1]? = some (a, .inl (g 0, n1, .inl gg)))
    {sp dp n : Nat} (hb1 : sp + n ≤ n0) (hb2 : dp + n ≤ n1) (hb3 : n0 < 2 ^ 31) (hb4 : n1 < 2 ^ 31) (hf : 1 ≤ R.frames) (hlo : (rest.map fun v => v.category).sum + (nativeFrameWords "java/lang/System" "arraycopy" 5 + 11) ≤ R.locals) {f' : Nat → Int32} (hf' : va_cpy f gg sp dp n = f') {ws' : va_W} (hw : ws.set q1 (a, .inl (g 0, n1, .inl f')) = ws') (hdg : decode cc pc = .ok (.invokestatic index, 3))
    (kk : ∀ (H1 : Heap) (locs1 : List Loc), zk_G D A ws' s H1 locs1 → W p l e R s m args below meth c H1 locs1 cells slots Q (F0 m (pc + 3) ls rest)) : W p l e R s m args below meth c H locs cells slots Q (F0 m pc ls (.int (nI n) :: .int (nI dp) :: .ref a :: .int (nI sp) :: .ref a0 :: rest)) := by
  have e1 : (nI sp).toNatClampNeg = sp := nI_clamp (by omega)
  have e2 : (nI dp).toNatClampNeg = dp := nI_clamp (by omega)
  have e3 : (nI n).toNatClampNeg = n := nI_clamp (by omega)
  subst hf' hw
  refine va_copyi Z.1 Z.2.1 (Z.2.2.1.trans hsz.symm) Z.2.2.2.1 (Z.2.2.2.2 _ h1) (Z.2.2.2.2 _ h2) (Z.2.2.2.2 _ h3) (Z.2.2.2.2 _ h4) hK G.1 G.2.1 G.2.2 q0 q1 0 0 (ty := .int) ha0 ha1 rfl rfl rfl (nI_pos (by omega)) (nI_pos (by omega)) (nI_pos (by omega)) (by rw [e1, e3]; exact hb1) (by rw [e2, e3]; exact hb2) (fun _ _ => rfl) hf hlo hdg (fun H1 locs1 k1 k2 k3 => ?_)
  rw [e1, e2, e3] at k1 k2
  exact kk H1 locs1 ⟨k1, k2, k3⟩
end ZK
