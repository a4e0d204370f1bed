section
-- ===== PART A: goes FIRST, ahead of the names: the tables' words, and 'selects' of the private methods out of them =====
/-- a private method of a class that the tables say can be made, by its rows of tables_1 -/
def lw_okq (q : MethodName × Nat) : Prop := (q.1.cls ≠ "java/lang/invoke/MethodHandle" ∧ q.1.cls ≠ "java/lang/invoke/VarHandle") ∧ Cond.instantiable q.1.cls q.2 ∈ tables_1 ∧ Cond.privateMethod q.1 ∈ tables_1 ∧ Cond.instanceMethod q.1 ∈ tables_1
theorem lw_p0 : lw_okq (⟨"java/lang/Throwable", "fillInStackTrace", "(I)Ljava/lang/Throwable;"⟩, 6) := ⟨⟨by decide +kernel, by decide +kernel⟩, List.mem_of_getElem? (i := 129) (by decide +kernel), List.mem_of_getElem? (i := 127) (by decide +kernel), List.mem_of_getElem? (i := 128) (by decide +kernel)⟩
theorem lw_p1 : lw_okq (⟨"ThreePrimes", "places", "()I"⟩, 8) := ⟨⟨by decide +kernel, by decide +kernel⟩, List.mem_of_getElem? (i := 14) (by decide +kernel), List.mem_of_getElem? (i := 159) (by decide +kernel), List.mem_of_getElem? (i := 160) (by decide +kernel)⟩
theorem lw_p2 : lw_okq (⟨"ThreePrimes", "requirePlace", "(I)V"⟩, 8) := ⟨⟨by decide +kernel, by decide +kernel⟩, List.mem_of_getElem? (i := 14) (by decide +kernel), List.mem_of_getElem? (i := 171) (by decide +kernel), List.mem_of_getElem? (i := 172) (by decide +kernel)⟩
theorem lw_p3 : lw_okq (⟨"ThreePrimes$Folder", "loadRemainders", "([II[JI)V"⟩, 3) := ⟨⟨by decide +kernel, by decide +kernel⟩, List.mem_of_getElem? (i := 37) (by decide +kernel), List.mem_of_getElem? (i := 225) (by decide +kernel), List.mem_of_getElem? (i := 226) (by decide +kernel)⟩
theorem lw_p4 : lw_okq (⟨"ThreePrimes$Folder", "foldRoundModulo", "(II)V"⟩, 3) := ⟨⟨by decide +kernel, by decide +kernel⟩, List.mem_of_getElem? (i := 37) (by decide +kernel), List.mem_of_getElem? (i := 232) (by decide +kernel), List.mem_of_getElem? (i := 233) (by decide +kernel)⟩
theorem lw_p5 : lw_okq (⟨"ThreePrimes$Folder", "listRootPowers", "(JII)V"⟩, 3) := ⟨⟨by decide +kernel, by decide +kernel⟩, List.mem_of_getElem? (i := 37) (by decide +kernel), List.mem_of_getElem? (i := 243) (by decide +kernel), List.mem_of_getElem? (i := 244) (by decide +kernel)⟩
theorem lw_p6 : lw_okq (⟨"ThreePrimes$Folder", "turnIntoValues", "([JII)V"⟩, 3) := ⟨⟨by decide +kernel, by decide +kernel⟩, List.mem_of_getElem? (i := 37) (by decide +kernel), List.mem_of_getElem? (i := 247) (by decide +kernel), List.mem_of_getElem? (i := 248) (by decide +kernel)⟩
theorem lw_p7 : lw_okq (⟨"ThreePrimes$Folder", "splitBlock", "([JIIII)V"⟩, 3) := ⟨⟨by decide +kernel, by decide +kernel⟩, List.mem_of_getElem? (i := 37) (by decide +kernel), List.mem_of_getElem? (i := 251) (by decide +kernel), List.mem_of_getElem? (i := 252) (by decide +kernel)⟩
theorem lw_p8 : lw_okq (⟨"ThreePrimes$Folder", "turnBack", "([JII)V"⟩, 3) := ⟨⟨by decide +kernel, by decide +kernel⟩, List.mem_of_getElem? (i := 37) (by decide +kernel), List.mem_of_getElem? (i := 258) (by decide +kernel), List.mem_of_getElem? (i := 259) (by decide +kernel)⟩
theorem lw_p9 : lw_okq (⟨"ThreePrimes$Folder", "joinBlock", "([JIIII)V"⟩, 3) := ⟨⟨by decide +kernel, by decide +kernel⟩, List.mem_of_getElem? (i := 37) (by decide +kernel), List.mem_of_getElem? (i := 262) (by decide +kernel), List.mem_of_getElem? (i := 263) (by decide +kernel)⟩
theorem lw_p10 : lw_okq (⟨"ThreePrimes$Folder", "takeAwayUpperHalf", "(II)V"⟩, 3) := ⟨⟨by decide +kernel, by decide +kernel⟩, List.mem_of_getElem? (i := 37) (by decide +kernel), List.mem_of_getElem? (i := 266) (by decide +kernel), List.mem_of_getElem? (i := 267) (by decide +kernel)⟩
theorem lw_p11 : lw_okq (⟨"ThreePrimes$Folder", "storeRemainders", "(IILThreePrimes$Sums;)V"⟩, 3) := ⟨⟨by decide +kernel, by decide +kernel⟩, List.mem_of_getElem? (i := 37) (by decide +kernel), List.mem_of_getElem? (i := 270) (by decide +kernel), List.mem_of_getElem? (i := 271) (by decide +kernel)⟩
theorem lw_p12 : lw_okq (⟨"ThreePrimes", "foldRowAWith", "([I)V"⟩, 8) := ⟨⟨by decide +kernel, by decide +kernel⟩, List.mem_of_getElem? (i := 14) (by decide +kernel), List.mem_of_getElem? (i := 289) (by decide +kernel), List.mem_of_getElem? (i := 290) (by decide +kernel)⟩
theorem lw_p13 : lw_okq (⟨"ThreePrimes$Sums", "moduloFirstTwo", "(I)J"⟩, 1) := ⟨⟨by decide +kernel, by decide +kernel⟩, List.mem_of_getElem? (i := 22) (by decide +kernel), List.mem_of_getElem? (i := 301) (by decide +kernel), List.mem_of_getElem? (i := 302) (by decide +kernel)⟩
theorem lw_p14 : lw_okq (⟨"ThreePrimes$Sums", "timesOfFirstTwo", "(IJ)J"⟩, 1) := ⟨⟨by decide +kernel, by decide +kernel⟩, List.mem_of_getElem? (i := 22) (by decide +kernel), List.mem_of_getElem? (i := 310) (by decide +kernel), List.mem_of_getElem? (i := 311) (by decide +kernel)⟩
theorem lw_p15 : lw_okq (⟨"ThreePrimes", "requireResult", "(I)V"⟩, 8) := ⟨⟨by decide +kernel, by decide +kernel⟩, List.mem_of_getElem? (i := 14) (by decide +kernel), List.mem_of_getElem? (i := 325) (by decide +kernel), List.mem_of_getElem? (i := 326) (by decide +kernel)⟩
def lw_privs_1 : List (MethodName × Nat) := [(⟨"java/lang/Throwable", "fillInStackTrace", "(I)Ljava/lang/Throwable;"⟩, 6), (⟨"ThreePrimes", "places", "()I"⟩, 8), (⟨"ThreePrimes", "requirePlace", "(I)V"⟩, 8), (⟨"ThreePrimes$Folder", "loadRemainders", "([II[JI)V"⟩, 3), (⟨"ThreePrimes$Folder", "foldRoundModulo", "(II)V"⟩, 3), (⟨"ThreePrimes$Folder", "listRootPowers", "(JII)V"⟩, 3), (⟨"ThreePrimes$Folder", "turnIntoValues", "([JII)V"⟩, 3), (⟨"ThreePrimes$Folder", "splitBlock", "([JIIII)V"⟩, 3), (⟨"ThreePrimes$Folder", "turnBack", "([JII)V"⟩, 3), (⟨"ThreePrimes$Folder", "joinBlock", "([JIIII)V"⟩, 3), (⟨"ThreePrimes$Folder", "takeAwayUpperHalf", "(II)V"⟩, 3), (⟨"ThreePrimes$Folder", "storeRemainders", "(IILThreePrimes$Sums;)V"⟩, 3), (⟨"ThreePrimes", "foldRowAWith", "([I)V"⟩, 8), (⟨"ThreePrimes$Sums", "moduloFirstTwo", "(I)J"⟩, 1), (⟨"ThreePrimes$Sums", "timesOfFirstTwo", "(IJ)J"⟩, 1), (⟨"ThreePrimes", "requireResult", "(I)V"⟩, 8)]
theorem lw_r1 : ∀ q ∈ lw_privs_1, lw_okq q := List.forall_mem_cons.mpr ⟨lw_p0, List.forall_mem_cons.mpr ⟨lw_p1, List.forall_mem_cons.mpr ⟨lw_p2, List.forall_mem_cons.mpr ⟨lw_p3, List.forall_mem_cons.mpr ⟨lw_p4, List.forall_mem_cons.mpr ⟨lw_p5, List.forall_mem_cons.mpr ⟨lw_p6, List.forall_mem_cons.mpr ⟨lw_p7, List.forall_mem_cons.mpr ⟨lw_p8, List.forall_mem_cons.mpr ⟨lw_p9, List.forall_mem_cons.mpr ⟨lw_p10, List.forall_mem_cons.mpr ⟨lw_p11, List.forall_mem_cons.mpr ⟨lw_p12, List.forall_mem_cons.mpr ⟨lw_p13, List.forall_mem_cons.mpr ⟨lw_p14, List.forall_mem_cons.mpr ⟨lw_p15, fun _ h => absurd h List.not_mem_nil⟩⟩⟩⟩⟩⟩⟩⟩⟩⟩⟩⟩⟩⟩⟩⟩
theorem lw_p16 : lw_okq (⟨"ThreePrimes", "requirePrime", "(I)V"⟩, 8) := ⟨⟨by decide +kernel, by decide +kernel⟩, List.mem_of_getElem? (i := 14) (by decide +kernel), List.mem_of_getElem? (i := 351) (by decide +kernel), List.mem_of_getElem? (i := 352) (by decide +kernel)⟩
theorem lw_p17 : lw_okq (⟨"ThreePrimes", "rootToThe", "(II)J"⟩, 8) := ⟨⟨by decide +kernel, by decide +kernel⟩, List.mem_of_getElem? (i := 14) (by decide +kernel), List.mem_of_getElem? (i := 368) (by decide +kernel), List.mem_of_getElem? (i := 369) (by decide +kernel)⟩
theorem lw_p18 : lw_okq (⟨"ThreePrimes", "rowAAt", "(JI)J"⟩, 8) := ⟨⟨by decide +kernel, by decide +kernel⟩, List.mem_of_getElem? (i := 14) (by decide +kernel), List.mem_of_getElem? (i := 374) (by decide +kernel), List.mem_of_getElem? (i := 375) (by decide +kernel)⟩
theorem lw_p19 : lw_okq (⟨"ThreePrimesModel", "noPlace", "(I)Z"⟩, 10) := ⟨⟨by decide +kernel, by decide +kernel⟩, List.mem_of_getElem? (i := 425) (by decide +kernel), List.mem_of_getElem? (i := 474) (by decide +kernel), List.mem_of_getElem? (i := 475) (by decide +kernel)⟩
theorem lw_p20 : lw_okq (⟨"ThreePrimesModel", "add", "(IJ)V"⟩, 10) := ⟨⟨by decide +kernel, by decide +kernel⟩, List.mem_of_getElem? (i := 425) (by decide +kernel), List.mem_of_getElem? (i := 498) (by decide +kernel), List.mem_of_getElem? (i := 499) (by decide +kernel)⟩
theorem lw_p21 : lw_okq (⟨"ThreePrimesModel", "foldKept", "()V"⟩, 10) := ⟨⟨by decide +kernel, by decide +kernel⟩, List.mem_of_getElem? (i := 425) (by decide +kernel), List.mem_of_getElem? (i := 508) (by decide +kernel), List.mem_of_getElem? (i := 509) (by decide +kernel)⟩
theorem lw_p22 : lw_okq (⟨"ThreePrimesModel", "noResult", "(I)Z"⟩, 10) := ⟨⟨by decide +kernel, by decide +kernel⟩, List.mem_of_getElem? (i := 425) (by decide +kernel), List.mem_of_getElem? (i := 516) (by decide +kernel), List.mem_of_getElem? (i := 517) (by decide +kernel)⟩
theorem lw_p23 : lw_okq (⟨"ThreePrimesModel", "sumOf", "(IIZ)J"⟩, 10) := ⟨⟨by decide +kernel, by decide +kernel⟩, List.mem_of_getElem? (i := 425) (by decide +kernel), List.mem_of_getElem? (i := 545) (by decide +kernel), List.mem_of_getElem? (i := 546) (by decide +kernel)⟩
theorem lw_p24 : lw_okq (⟨"ThreePrimesModel", "rootOf", "(I)J"⟩, 10) := ⟨⟨by decide +kernel, by decide +kernel⟩, List.mem_of_getElem? (i := 425) (by decide +kernel), List.mem_of_getElem? (i := 549) (by decide +kernel), List.mem_of_getElem? (i := 550) (by decide +kernel)⟩
def lw_privs_2 : List (MethodName × Nat) := [(⟨"ThreePrimes", "requirePrime", "(I)V"⟩, 8), (⟨"ThreePrimes", "rootToThe", "(II)J"⟩, 8), (⟨"ThreePrimes", "rowAAt", "(JI)J"⟩, 8), (⟨"ThreePrimesModel", "noPlace", "(I)Z"⟩, 10), (⟨"ThreePrimesModel", "add", "(IJ)V"⟩, 10), (⟨"ThreePrimesModel", "foldKept", "()V"⟩, 10), (⟨"ThreePrimesModel", "noResult", "(I)Z"⟩, 10), (⟨"ThreePrimesModel", "sumOf", "(IIZ)J"⟩, 10), (⟨"ThreePrimesModel", "rootOf", "(I)J"⟩, 10)]
theorem lw_r2 : ∀ q ∈ lw_privs_2, lw_okq q := List.forall_mem_cons.mpr ⟨lw_p16, List.forall_mem_cons.mpr ⟨lw_p17, List.forall_mem_cons.mpr ⟨lw_p18, List.forall_mem_cons.mpr ⟨lw_p19, List.forall_mem_cons.mpr ⟨lw_p20, List.forall_mem_cons.mpr ⟨lw_p21, List.forall_mem_cons.mpr ⟨lw_p22, List.forall_mem_cons.mpr ⟨lw_p23, List.forall_mem_cons.mpr ⟨lw_p24, fun _ h => absurd h List.not_mem_nil⟩⟩⟩⟩⟩⟩⟩⟩⟩
def lw_privs : List (MethodName × Nat) := lw_privs_1 ++ (lw_privs_2)
def lw_tbl : List Cond := k2_sels lw_privs ++ tables_1
theorem lw_privs_ok : ∀ q ∈ lw_privs, lw_okq q := by
  show ∀ q ∈ lw_privs_1 ++ (lw_privs_2), lw_okq q
  exact List.forall_mem_append.mpr ⟨lw_r1, lw_r2⟩
/-! ===== BEGIN words of one list among another's, by their places ===== -/
theorem goodIn_r {big : List Cond} (ws : List Cond) (ps : List Nat) (hp : ws = ps.filterMap (fun i => big[i]?)) (h : ws.all goodWord = true) : GoodIn big ws := by
  intro w hw
  have h1 := List.all_eq_true.mp h w hw
  rw [hp] at hw
  obtain ⟨i, -, hi⟩ := List.mem_filterMap.mp hw
  have hm : w ∈ big := by first | exact List.mem_of_getElem? hi | exact List.getElem?_mem hi
  exact ⟨hm, good_of_word h1⟩
theorem goodIn_app {big a b : List Cond} (ha : GoodIn big a) (hb : GoodIn big b) : GoodIn big (a ++ b) := fun w h => (List.mem_append.mp h).elim (ha w) (hb w)
theorem goodIn_ca {big a b : List Cond} {c : Cond} (ha : GoodIn big (c :: a)) (hb : GoodIn big b) : GoodIn big (c :: (a ++ b)) := fun w h => (List.mem_cons.mp h).elim (fun e => ha w (List.mem_cons.mpr (Or.inl e))) (fun h => (List.mem_append.mp h).elim (fun h => ha w (List.mem_cons.mpr (Or.inr h))) (hb w))
theorem goodIn_sub {big ws : List Cond} (hm : ∀ w ∈ ws, w ∈ big) (h : ws.all goodWord = true) : GoodIn big ws := fun w hw => ⟨hm w hw, good_of_word (List.all_eq_true.mp h w hw)⟩
/-! ===== END ===== -/


/-! ===== BEGIN exceptions that leave a method, and their catching by the caller (launches without stack traces) ===== -/
section VXA
/-! The laws vx_back, vx_callV, vx_callS, vx_callSW, vx_throw0, vx_throwS follow proofs of the library, with one case more: JvmDerived/Free/Laws.lean (Back.of_free), Shelf42/LK1.lean (callV, callS), Shelf/KitTraced.lean (throwNew0V, throwNewS). -/
/-- where a method has thrown q: the class by its name, the cell, what was written, the world -/
def vx_T (XC : String → State → State → Prop) (st : State) (q : Addr) (t : State) (mc ms : Nat) (free : Addr → Prop) : Prop :=
  ∃ (E : String) (ce : Cell) (L : List Loc), XC E st t ∧ t.heap[q]? = some ce ∧ ce.vm = .none ∧ st.vm.findClass E = some ce.cls ∧ st.WarmedH t.vm ∧ st.sameButNew ({ t with vm := st.vm } : State) L mc ms ∧ ∀ z ∈ L, free z.base
def vx_Q (Qc : Array Value → State → Outcome → State → Prop) (XC : String → State → State → Prop) (mc ms : Nat) (free : Addr → Prop) : Array Value → State → Outcome → State → Prop := fun a st o t =>
  (Qc a st o t ∧ ∃ L, FrameEnd st o t L mc ms ∧ ∀ q ∈ L, free q.base) ∨ ∃ q, o = .threw q ∧ vx_T XC st q t mc ms free
/-- a callee that returns or throws -/
def vx_Met (l : Launch) (y : MethodName) (ws : List Cond) (rm : Room) (Pc : Array Value → State → Prop) (Qc : Array Value → State → Outcome → State → Prop) (XC : String → State → State → Prop) (mc ms : Nat) (free : Addr → Prop) : Prop :=
  MetFree l y (headSpec ws rm) Pc (fun _ _ _ _ _ => True) (vx_Q Qc XC mc ms free)
def vx_Post (XC : String → State → State → Prop) (mc ms : Nat) (free : Addr → Prop) : Pt → Array Value → Addr → Pt → Prop := fun A a q B =>
  ∃ (g : JFrame) (mk : MethodId) (t : State) (L : List Loc) (E : String) (ce : Cell), B.U.heap = t.heap ∧ B.U.vm = t.vm ∧ XC E (A.U.calling g mk a) t ∧ t.heap[q]? = some ce ∧ ce.vm = .none ∧ A.U.vm.findClass E = some ce.cls ∧ B.locs = A.locs ++ L ∧ (∀ z ∈ L, free z.base) ∧ B.cells = A.cells + mc ∧ B.slots = A.slots + ms
def vx_Back (l : Launch) (R : Room) (p : Program) (e : Env) (below : List Frame) (s : State) (sargs : Array Value) (y : MethodName) (len W9 : Nat)
    (Pre : Pt → Array Value → Prop) (Post : Pt → Array Value → Option Value → Pt → Prop) (PostX : Pt → Array Value → Addr → Pt → Prop) : Prop :=
  ∀ (m : MethodId) (meth : Method) (c : Code) (A : Pt) (g : JFrame) (ig : Instr) (mk : MethodId) (a : Array Value),
    Stand p l e R s m sargs below meth c A.U A.locs A.cells A.slots → g.method = m → g.locals.size = c.maxLocals → decode c.code g.pc = .ok (ig, len) →
    2 * g.monitorRoom + (g.stack.map fun v => v.category).sum ≤ W9 → A.U.methodNamed? y = some mk → Pre A a →
    (∃ (v : Option Value) (B : Pt), Stand p l e R s m sargs below meth c B.U B.locs B.cells B.slots ∧ Post A a v B ∧
      Steps p.tables e below (doInvoke e (A.U.setTop g) [] mk a).1 (B.U.setTop { g with pc := g.pc + len, stack := v.toList ++ g.stack })) ∨
    (∃ (q : Addr) (B : Pt), Stand p l e R s m sargs below meth c B.U B.locs B.cells B.slots ∧ PostX A a q B ∧
      Steps p.tables e below (doInvoke e (A.U.setTop g) [] mk a).1 ((B.U.setTop g).pushFrame (.throwing q)))
section Payer
variable {l : Launch} {R : Room} {p : Program} {e : Env} {below : List Frame} {s : State} {sargs : Array Value} {y : MethodName} {len W9 : Nat}
theorem vx_back {ws : List Cond} {rm : Room} {Pc : Array Value → State → Prop} {Qc : Array Value → State → Outcome → State → Prop} {XC : String → State → State → Prop} {mc ms : Nat} {free : Addr → Prop} {bytes : ByteArray} {maxL : Nat} {ret : Option FieldType}
    (hM : vx_Met l y ws rm Pc Qc XC mc ms free) (hblind : FrameBlind Pc) (hrc : rm.cells = mc) (hrs : rm.slots = ms)
    (hframes : rm.frames + 1 ≤ R.frames) (hlocals : W9 + (maxL + 11) + rm.locals ≤ R.locals)
    (hws : ∀ w ∈ ws, ∀ a' U, s.WarmedH U.vm → w.before a' U = true) (hcode : Cond.code y bytes maxL ret ∈ ws) (hinit : ∀ a' U, s.WarmedH U.vm → (Cond.initialized y.cls).before a' U = true) :
    vx_Back l R p e below s sargs y len W9 (PreOf R mc ms Pc) (PostOf Qc mc ms free) (vx_Post XC mc ms free) := by
  intro m meth c A g ig mk a X hg hsize hdg hW hn hp
  have h1 : (headSpec ws rm).pre.before a A.U = true := atoms_intro fun w hw => hws w hw _ _ X.warmed
  have h2 : (Cond.code y bytes maxL ret).before a A.U = true := hws _ hcode _ _ X.warmed
  have h3 : (Cond.initialized y.cls).before a A.U = true := hinit _ _ X.warmed
  have h4 : A.cells + (headSpec ws rm).room.cells ≤ R.cells := by rw [show (headSpec ws rm).room.cells = mc from hrc]; exact hp.1
  have h5 : A.slots + (headSpec ws rm).room.slots ≤ R.slots := by rw [show (headSpec ws rm).room.slots = ms from hrs]; exact hp.2.1
  have hPc : Pc a (A.U.calling g mk a) := hblind _ _ _ _ hp.2.2
  obtain ⟨U, Ls, c0, s0⟩ := A
  dsimp only [Pt.U, Pt.locs, Pt.cells, Pt.slots] at h1 h2 h3 h4 h5 X hn hPc ⊢
  obtain ⟨methY, cY, hmY, hcY, -, hlY, -, -, -, -⟩ := Cond.code_spec hn h2
  obtain ⟨kY, hkY, -⟩ := className_of_methodNamed hn
  have hinitY : kY.init = .initialized := Cond.initialized_spec (findClass_of_methodNamed hn) hkY h3
  have h : At U g.method c below := by rw [hg]; exact X.here
  have hlocals9 : W9 + (maxL + 11) + (headSpec ws rm).room.locals ≤ R.locals := hlocals
  have happ : (headSpec ws rm).appliesLoose y e.platform (U.calling g mk a) = true :=
    Spec.appliesLoose_calling (g := g) h hdg hn hkY hinitY
      (X.room_calling (g := g) (R' := (headSpec ws rm).room) hsize hmY hcY hframes (by rw [hlY]; omega) h4 h5) h1
  obtain ⟨mid, hmid⟩ := h.above
  have hfr : (U.setTop g).frames = (.java g :: mid) ++ below := by rw [State.frames_setTop' g h.top, hmid]; rfl
  obtain ⟨o, s₂, hsteps, -, hend, hq⟩ := Steps.callFree hM p X.admits X.cas X.clock (acts := []) hfr happ hPc trivial
  have hq' : vx_Q Qc XC mc ms free a (U.calling g mk a) o s₂ := hq
  rw [State.frames_setTop' g h.top] at hend
  obtain ⟨g₀, hg0⟩ := Option.isSome_iff_exists.mp h.top
  obtain ⟨r, hr⟩ := State.topJava?_eq_some.mp hg0
  have hr' : (({ U with heap := s₂.heap, slotsUsed := s₂.slotsUsed } : State).setVm s₂.vm).frames = .java g₀ :: r := hr
  rcases hq' with ⟨hqc, L, hfe, hL⟩ | ⟨q, rfl, E, ce, L, hx, hce, hcv, hcl, hW₂, hsm, hL⟩
  · obtain ⟨⟨v, rfl⟩, hW₂, e2, q2, q3, q4, q5, q6⟩ := id hfe
    have e3 : s₂ = ({ (U.calling g mk a).setFrames s₂.frames with heap := s₂.heap, slotsUsed := s₂.slotsUsed } : State).setVm s₂.vm := by
      have : s₂ = ({ s₂ with vm := (U.calling g mk a).vm } : State).setVm s₂.vm := rfl
      rw [e2] at this
      exact this
    obtain ⟨c₂, i₂, len₂, hc₂, hd₂, hf₂⟩ := hend
    have hW' : U.WarmedH s₂.vm := hW₂
    have hcc : c₂ = c := by
      have h1 : s₂.code? g.method = U.code? g.method := by
        rw [State.code?_eq, State.code?_eq, hW'.alike.method?]
      exact Option.some.inj (hc₂.symm.trans (h1.trans h.code))
    subst hcc
    have hlen : len₂ = len := by rw [hdg] at hd₂; cases hd₂; rfl
    subst hlen
    have hs₂ : s₂ = (({ U with heap := s₂.heap, slotsUsed := s₂.slotsUsed } : State).setVm s₂.vm).setTop { g with pc := g.pc + len₂, stack := v.toList ++ g.stack } := by
      refine e3.trans ?_
      rw [hf₂, State.calling_eq h.top, State.setFrames_setFrames, State.setTop_of_frames _ hr', hr]
      rfl
    have hsame : U.sameButNew ({ U with heap := s₂.heap, slotsUsed := s₂.slotsUsed } : State) L mc ms := by
      refine ⟨?_, q2, q3, q4, q5, q6⟩
      obtain ⟨t, ht, -⟩ := State.frames_cons hr
      show ({ U with heap := s₂.heap, slotsUsed := s₂.slotsUsed } : State) = { U.setFrames U.frames with heap := s₂.heap, slotsUsed := s₂.slotsUsed }
      rw [State.setFrames_self ht]
    subst hg
    refine Or.inl ⟨v, ⟨(({ U with heap := s₂.heap, slotsUsed := s₂.slotsUsed } : State).setVm s₂.vm), Ls ++ L, c0 + mc, s0 + ms⟩,
      ⟨X.admits, X.cas, X.clock, X.frames, X.room, X.hears, X.method, X.code, (X.here.setHeapUsed s₂.heap s₂.slotsUsed).setVm hW'.alike, X.tail, State.WarmedH.trans X.warmed hW', X.limits, X.bytes, X.same.trans (hsame.setVm s.vm)⟩,
      ⟨g, mk, s₂, L, rfl, rfl, hqc, rfl, hL, rfl, rfl⟩, ?_⟩
    show Steps p.tables e below _ ((({ U with heap := s₂.heap, slotsUsed := s₂.slotsUsed } : State).setVm s₂.vm).setTop { g with pc := g.pc + len₂, stack := v.toList ++ g.stack })
    rw [← hs₂]
    exact hsteps
  · obtain ⟨e2, q2, q3, q4, q5, q6⟩ := id hsm
    have e3 : s₂ = ({ (U.calling g mk a).setFrames s₂.frames with heap := s₂.heap, slotsUsed := s₂.slotsUsed } : State).setVm s₂.vm := by
      have : s₂ = ({ s₂ with vm := (U.calling g mk a).vm } : State).setVm s₂.vm := rfl
      rw [e2] at this
      exact this
    have hf₂ : s₂.frames = .throwing q :: .java g :: U.frames.tail := hend
    have hW' : U.WarmedH s₂.vm := hW₂
    have hs₂ : s₂ = ((({ U with heap := s₂.heap, slotsUsed := s₂.slotsUsed } : State).setVm s₂.vm).setTop g).pushFrame (.throwing q) := by
      refine e3.trans ?_
      rw [hf₂, State.calling_eq h.top, State.setFrames_setFrames, State.pushFrame, State.frames_setTop _ hr', State.setTop_of_frames _ hr', State.setFrames_setFrames, hr]
      rfl
    have hsame : U.sameButNew ({ U with heap := s₂.heap, slotsUsed := s₂.slotsUsed } : State) L mc ms := by
      refine ⟨?_, q2, q3, q4, q5, q6⟩
      obtain ⟨t, ht, -⟩ := State.frames_cons hr
      show ({ U with heap := s₂.heap, slotsUsed := s₂.slotsUsed } : State) = { U.setFrames U.frames with heap := s₂.heap, slotsUsed := s₂.slotsUsed }
      rw [State.setFrames_self ht]
    subst hg
    refine Or.inr ⟨q, ⟨(({ U with heap := s₂.heap, slotsUsed := s₂.slotsUsed } : State).setVm s₂.vm), Ls ++ L, c0 + mc, s0 + ms⟩,
      ⟨X.admits, X.cas, X.clock, X.frames, X.room, X.hears, X.method, X.code, (X.here.setHeapUsed s₂.heap s₂.slotsUsed).setVm hW'.alike, X.tail, State.WarmedH.trans X.warmed hW', X.limits, X.bytes, X.same.trans (hsame.setVm s.vm)⟩,
      ⟨g, mk, s₂, L, E, ce, rfl, rfl, hx, hce, hcv, hcl, rfl, hL, rfl, rfl⟩, ?_⟩
    show Steps p.tables e below _ (((({ U with heap := s₂.heap, slotsUsed := s₂.slotsUsed } : State).setVm s₂.vm).setTop g).pushFrame (.throwing q))
    rw [← hs₂]
    exact hsteps
end Payer
section Calls
variable {p : Program} {l : Launch} {e : Env} {R : Room} {s : State} {m : MethodId} {args : Array Value} {below : List Frame} {meth : Method} {c : Code} {T : State} {locs : List Loc} {cells slots : Nat}
theorem vx_callV (X : Stand p l e R s m args below meth c T locs cells slots) (hexec : p.tables.exec = Jvm.exec) {own C : String} {index : Nat} {y : MethodName} {bytes : ByteArray} {maxL : Nat} {ret : Option FieldType}
    (hown : s.vm.findClass own = some m.cls) (hlink : (Cond.methodLink own index y).before args s = true) (hinst : (Cond.instanceMethod y).before args s = true) (hsel : (Cond.selects C y y).before args s = true)
    (hcode : (Cond.code y bytes maxL ret).before args s = true) (hy : y.cls ≠ "java/lang/invoke/MethodHandle" ∧ y.cls ≠ "java/lang/invoke/VarHandle")
    {W9 : Nat} {Pre : Pt → Array Value → Prop} {Post : Pt → Array Value → Option Value → Pt → Prop} {PostX : Pt → Array Value → Addr → Pt → Prop} (hK : vx_Back l R p e below s args y 3 W9 Pre Post PostX)
    {b : Addr} {cellB : Cell} (hcell : T.heap[b]? = some cellB) (hobj : cellB.vm.isStatics = false) (hcls : s.vm.findClass C = some cellB.cls)
    {g : JFrame} (hg : g.method = m) (hsize : g.locals.size = c.maxLocals) {argsL rest : List Value} (hlen : ∀ sig, parseMethodDescriptor y.desc = some sig → argsL.length = sig.parameters.length)
    (hstack : g.stack = argsL.reverse ++ .ref b :: rest) (hW : 2 * g.monitorRoom + (rest.map fun v => v.category).sum ≤ W9) (hdg : decode c.code g.pc = .ok (.invokevirtual index, 3))
    (hpre : ∀ vm₁, s.WarmedH vm₁ → Pre ⟨T.setVm vm₁, locs, cells, slots⟩ (Value.ref b :: argsL).toArray) :
    (∃ (v : Option Value) (vm₁ : Vm) (B : Pt), s.WarmedH vm₁ ∧ Stand p l e R s m args below meth c B.U B.locs B.cells B.slots ∧ Post ⟨T.setVm vm₁, locs, cells, slots⟩ (Value.ref b :: argsL).toArray v B ∧
      ∀ target, Steps p.tables e below (B.U.setTop { g with pc := g.pc + 3, stack := v.toList ++ rest }) target → Steps p.tables e below (T.setTop g) target) ∨
    (∃ (q : Addr) (vm₁ : Vm) (B : Pt), s.WarmedH vm₁ ∧ Stand p l e R s m args below meth c B.U B.locs B.cells B.slots ∧ PostX ⟨T.setVm vm₁, locs, cells, slots⟩ (Value.ref b :: argsL).toArray q B ∧
      Steps p.tables e below (T.setTop g) ((B.U.setTop { g with stack := rest }).pushFrame (.throwing q))) := by
  obtain ⟨mk, methM, hnamed, hmethM, hstM, habM⟩ := Cond.instanceMethod_spec hinst
  obtain ⟨methM', cM, hmethM', -, -, -, -, -, -, hsigM⟩ := Cond.code_spec hnamed hcode
  cases hmethM.symm.trans hmethM'
  obtain ⟨c2, r2, m2, q1, q2, q3, q4, kP, hkP, hkPi⟩ := Cond.selects_spec hsel
  cases hcls.symm.trans q1
  cases (State.methodFound?_of_named hnamed hy).symm.trans q2
  cases hnamed.symm.trans q3
  have hselP : selectMethod e.platform s.vm cellB.cls mk = .method mk := by rw [Launch.admits_selectMethod X.admits]; exact q4
  obtain ⟨vm₁, X₁, hstep₁⟩ := X.invokevirtual hexec hown hlink hnamed hmethM hstM hkP hkPi hy (a := b) (cell := cellB) hcell
    (fun z h => by rw [h] at hobj; cases hobj) hselP hmethM habM hkP hkPi (g := g) hg (argsL := argsL) (rest := rest) (hlen _ hsigM) hstack hdg
  rcases hK m meth c ⟨T.setVm vm₁, locs, cells, slots⟩ { g with stack := rest } (.invokevirtual index) mk (Value.ref b :: argsL).toArray X₁ hg hsize hdg hW (X₁.named hnamed) (hpre vm₁ X₁.warmed) with ⟨v, B, X', hpost, hsteps⟩ | ⟨q, B, X', hpost, hsteps⟩
  · exact Or.inl ⟨v, vm₁, B, X₁.warmed, X', hpost, fun target h => hstep₁ _ fun acts => by rw [doInvoke_state]; exact hsteps.trans h⟩
  · exact Or.inr ⟨q, vm₁, B, X₁.warmed, X', hpost, hstep₁ _ fun acts => by rw [doInvoke_state]; exact hsteps⟩
theorem vx_callS (X : Stand p l e R s m args below meth c T locs cells slots) (hexec : p.tables.exec = Jvm.exec) {own : String} {index : Nat} {y : MethodName} {bytes : ByteArray} {maxL : Nat} {ret : Option FieldType}
    (hown : s.vm.findClass own = some m.cls) (hlink : (Cond.methodLink own index y).before args s = true) (hstat : (Cond.static y).before args s = true) (hinit : (Cond.initialized y.cls).before args s = true)
    (hcode : (Cond.code y bytes maxL ret).before args s = true) (hy : y.cls ≠ "java/lang/invoke/MethodHandle" ∧ y.cls ≠ "java/lang/invoke/VarHandle")
    {W9 : Nat} {Pre : Pt → Array Value → Prop} {Post : Pt → Array Value → Option Value → Pt → Prop} {PostX : Pt → Array Value → Addr → Pt → Prop} (hK : vx_Back l R p e below s args y 3 W9 Pre Post PostX)
    {g : JFrame} (hg : g.method = m) (hsize : g.locals.size = c.maxLocals) {argsL rest : List Value} (hlen : ∀ sig, parseMethodDescriptor y.desc = some sig → argsL.length = sig.parameters.length)
    (hstack : g.stack = argsL.reverse ++ rest) (hW : 2 * g.monitorRoom + (rest.map fun v => v.category).sum ≤ W9) (hdg : decode c.code g.pc = .ok (.invokestatic index, 3))
    (hpre : ∀ vm₁, s.WarmedH vm₁ → Pre ⟨T.setVm vm₁, locs, cells, slots⟩ argsL.toArray) :
    (∃ (v : Option Value) (vm₁ : Vm) (B : Pt), s.WarmedH vm₁ ∧ Stand p l e R s m args below meth c B.U B.locs B.cells B.slots ∧ Post ⟨T.setVm vm₁, locs, cells, slots⟩ argsL.toArray v B ∧
      ∀ target, Steps p.tables e below (B.U.setTop { g with pc := g.pc + 3, stack := v.toList ++ rest }) target → Steps p.tables e below (T.setTop g) target) ∨
    (∃ (q : Addr) (vm₁ : Vm) (B : Pt), s.WarmedH vm₁ ∧ Stand p l e R s m args below meth c B.U B.locs B.cells B.slots ∧ PostX ⟨T.setVm vm₁, locs, cells, slots⟩ argsL.toArray q B ∧
      Steps p.tables e below (T.setTop g) ((B.U.setTop { g with stack := rest }).pushFrame (.throwing q))) := by
  obtain ⟨mk, hnamed⟩ := Cond.code_named hcode
  obtain ⟨methM, cM, hmethM, -, -, -, -, -, -, hsigM⟩ := Cond.code_spec hnamed hcode
  have hstatic : methM.isStatic = true := Cond.static_spec hnamed hmethM hstat
  obtain ⟨kP, hkP, -⟩ := className_of_methodNamed hnamed
  have hinitP : kP.init = .initialized := Cond.initialized_spec (findClass_of_methodNamed hnamed) hkP hinit
  obtain ⟨vm₁, X₁, hstep₁⟩ := X.invokestatic hexec hown hlink hnamed hmethM hstatic hkP hinitP hy (g := g) hg (argsL := argsL) (rest := rest) (hlen _ hsigM) hstack hdg
  rcases hK m meth c ⟨T.setVm vm₁, locs, cells, slots⟩ { g with stack := rest } (.invokestatic index) mk argsL.toArray X₁ hg hsize hdg hW (X₁.named hnamed) (hpre vm₁ X₁.warmed) with ⟨v, B, X', hpost, hsteps⟩ | ⟨q, B, X', hpost, hsteps⟩
  · exact Or.inl ⟨v, vm₁, B, X₁.warmed, X', hpost, fun target h => hstep₁ _ fun acts => by rw [doInvoke_state]; exact hsteps.trans h⟩
  · exact Or.inr ⟨q, vm₁, B, X₁.warmed, X', hpost, hstep₁ _ fun acts => by rw [doInvoke_state]; exact hsteps⟩
end Calls
theorem vx_cls {s : State} {T : State} {vm₁ : Vm} {E : String} {k : ClassId} (hW : s.WarmedH vm₁) (h : (T.setVm vm₁).vm.findClass E = some k) : s.vm.findClass E = some k := by
  have h1 : vm₁.findClass E = some k := h
  rw [hW.alike.findClass] at h1
  exact h1
/-- the method's frame g, with q thrown over it -/
def vx_W (p : Program) (l : Launch) (e : Env) (R : Room) (s : State) (m : MethodId) (args : Array Value) (below : List Frame) (meth : Method) (c : Code) (H : Heap) (locs : List Loc) (cells slots : Nat) (Q : State → Prop) (g : JFrame) (q : Addr) : Prop :=
  ∀ T : State, T.heap = H → Stand p l e R s m args below meth c T locs cells slots → ∃ t, Steps p.tables e below ((T.setTop g).pushFrame (.throwing q)) t ∧ Q t
def vx_Run (p : Program) (l : Launch) (e : Env) (R : Room) (s : State) (m : MethodId) (args : Array Value) (below : List Frame) (meth : Method) (c : Code) (H : Heap) (locs : List Loc) (cells slots mc ms : Nat) (g : JFrame) (rest : List Value) (Qa : State → Outcome → State → Prop) (XC : String → State → State → Prop) (free : Addr → Prop) : Prop :=
  ∀ T : State, T.heap = H → Stand p l e R s m args below meth c T locs cells slots →
    (∃ (v : Option Value) (st₀ t T' : State) (L : List Loc), st₀.heap = H ∧ Stand p l e R s m args below meth c T' (locs ++ L) (cells + mc) (slots + ms) ∧ (∀ q ∈ L, free q.base) ∧ T'.heap = t.heap ∧ T'.vm = t.vm ∧ Qa st₀ (.returned v) t ∧
      Goes p e below T g T' { g with pc := g.pc + 3, stack := v.toList ++ rest }) ∨
    (∃ (q : Addr) (st₀ t T' : State) (L : List Loc) (E : String) (ce : Cell), st₀.heap = H ∧ Stand p l e R s m args below meth c T' (locs ++ L) (cells + mc) (slots + ms) ∧ (∀ z ∈ L, free z.base) ∧ T'.heap = t.heap ∧ T'.vm = t.vm ∧ XC E st₀ t ∧ t.heap[q]? = some ce ∧ ce.vm = .none ∧ s.vm.findClass E = some ce.cls ∧
      Steps p.tables e below (T.setTop g) ((T'.setTop { g with stack := rest }).pushFrame (.throwing q)))
def vx_X {S : Type} (px : S → Prop) (B : String → S → State → Prop) (A : Nat → Prop) : String → State → State → Prop := fun E st t => ∃ u : S, px u ∧ B E u t ∧ va_F A st t
section Runs
variable {p : Program} {l : Launch} {e : Env} {R : Room} {s : State} {m : MethodId} {args : Array Value} {below : List Frame} {meth : Method} {c : Code} {H : Heap} {locs : List Loc} {cells slots : Nat}
variable {y : MethodName} {bytes cc : ByteArray} {maxL nL mc ms n index : Nat} {ret : Option FieldType} {ws : List Cond} {rm : Room} {Pc : Array Value → State → Prop} {Qc : Array Value → State → Outcome → State → Prop} {XC : String → State → State → Prop} {free : Addr → Prop} {Ts : List Cond} {own C : String} {b : Addr} {As rest : List Value} {g : JFrame}
theorem vx_callBack (cb : CallB R s args own index y bytes maxL ret ws rm mc ms n) (hM : vx_Met l y ws rm Pc Qc XC mc ms free) (hbl : FrameBlind Pc) : vx_Back l R p e below s args y 3 8 (PreOf R mc ms Pc) (PostOf Qc mc ms free) (vx_Post XC mc ms free) := by
  obtain ⟨hrc, hrs, hfr, hlo, hws, hcw, -, hini, -⟩ := cb
  exact vx_back (bytes := bytes) (maxL := maxL) (ret := ret) hM hbl hrc hrs hfr hlo hws hcw (fun a' U hW => word_at hW (Or.inl (by first | rfl | simp [Cond.onTables, Cond.keeps, Cond.steady])) hini)
theorem vx_runV (S : CallFix p m c cc nL s args Ts own) (hM : vx_Met l y ws rm Pc Qc XC mc ms free) (cw : CallW R s args own C index y bytes maxL ret ws rm mc ms n) (hp : PreV s H C b Pc As)
    (hg : g.method = m) (hn : As.length = n) (hsize : g.locals.size = nL) (hstack : g.stack = As.reverse ++ .ref b :: rest) (hW : 2 * g.monitorRoom + (rest.map fun v => v.category).sum ≤ 8) (hdg : decode cc g.pc = .ok (.invokevirtual index, 3)) (hf : cells + mc ≤ R.cells ∧ slots + ms ≤ R.slots) :
    vx_Run p l e R s m args below meth c H locs cells slots mc ms g rest (Qc (Value.ref b :: As).toArray) XC free := by
  have hK : vx_Back l R p e below s args y 3 8 (PreOf R mc ms Pc) (PostOf Qc mc ms free) (vx_Post XC mc ms free) := vx_callBack cw.1 hM hp.1
  obtain ⟨⟨-, -, -, -, -, -, hcode, -, hy, hlen, hl⟩, hin, hse⟩ := cw
  obtain ⟨hx, hb, hml, ho, -⟩ := S
  obtain ⟨-, ⟨cellB, hcB, hoB, hclB⟩, hPc⟩ := hp
  intro T hT X
  rcases vx_callV X hx (C := C) (bytes := bytes) (maxL := maxL) (ret := ret) ho hl hin hse hcode hy hK (by rw [hT]; exact hcB) hoB hclB hg (hsize.trans hml.symm) (argsL := As) (rest := rest) (fun sig h => hn.trans (hlen sig h)) hstack hW (by rw [hb]; exact hdg)
    (fun vm₁ hW₁ => ⟨hf.1, hf.2, hPc (T.setVm vm₁) hT hW₁⟩) with ⟨v, vm₁, ⟨U', l2, c2, s2⟩, hW₁, X', ⟨g', mk, t, L, e1, e2, hq, h1, hL, h2, h3⟩, st⟩ | ⟨q, vm₁, ⟨U', l2, c2, s2⟩, hW₁, X', ⟨g', mk, t, L, E, ce, e1, e2, hq, hce, hcv, hcl, h1, hL, h2, h3⟩, st⟩
  · dsimp only [Pt.U, Pt.locs, Pt.cells, Pt.slots] at X' e1 e2 h1 h2 h3 st
    subst h1; subst h2; subst h3
    exact Or.inl ⟨v, (T.setVm vm₁).calling g' mk (Value.ref b :: As).toArray, t, U', L, hT, X', hL, e1, e2, hq, st⟩
  · dsimp only [Pt.U, Pt.locs, Pt.cells, Pt.slots] at X' e1 e2 h1 h2 h3 st hcl
    subst h1; subst h2; subst h3
    exact Or.inr ⟨q, (T.setVm vm₁).calling g' mk (Value.ref b :: As).toArray, t, U', L, E, ce, hT, X', hL, e1, e2, hq, hce, hcv, vx_cls hW₁ hcl, st⟩
theorem vx_runS (S : CallFix p m c cc nL s args Ts own) (hM : vx_Met l y ws rm Pc Qc XC mc ms free) (cw : CallB R s args own index y bytes maxL ret ws rm mc ms n ∧ (Cond.static y).before args s = true) (hp : PreS s H Pc As)
    (hg : g.method = m) (hn : As.length = n) (hsize : g.locals.size = nL) (hstack : g.stack = As.reverse ++ rest) (hW : 2 * g.monitorRoom + (rest.map fun v => v.category).sum ≤ 8) (hdg : decode cc g.pc = .ok (.invokestatic index, 3)) (hf : cells + mc ≤ R.cells ∧ slots + ms ≤ R.slots) :
    vx_Run p l e R s m args below meth c H locs cells slots mc ms g rest (Qc As.toArray) XC free := by
  have hK : vx_Back l R p e below s args y 3 8 (PreOf R mc ms Pc) (PostOf Qc mc ms free) (vx_Post XC mc ms free) := vx_callBack cw.1 hM hp.1
  obtain ⟨⟨-, -, -, -, -, -, hcode, hini, hy, hlen, hl⟩, hstt⟩ := cw
  obtain ⟨hx, hb, hml, ho, -⟩ := S
  intro T hT X
  rcases vx_callS X hx (bytes := bytes) (maxL := maxL) (ret := ret) ho hl hstt hini hcode hy hK hg (hsize.trans hml.symm) (argsL := As) (rest := rest) (fun sig h => hn.trans (hlen sig h)) hstack hW (by rw [hb]; exact hdg)
    (fun vm₁ hW₁ => ⟨hf.1, hf.2, hp.2 (T.setVm vm₁) hT hW₁⟩) with ⟨v, vm₁, ⟨U', l2, c2, s2⟩, hW₁, X', ⟨g', mk, t, L, e1, e2, hq, h1, hL, h2, h3⟩, st⟩ | ⟨q, vm₁, ⟨U', l2, c2, s2⟩, hW₁, X', ⟨g', mk, t, L, E, ce, e1, e2, hq, hce, hcv, hcl, h1, hL, h2, h3⟩, st⟩
  · dsimp only [Pt.U, Pt.locs, Pt.cells, Pt.slots] at X' e1 e2 h1 h2 h3 st
    subst h1; subst h2; subst h3
    exact Or.inl ⟨v, (T.setVm vm₁).calling g' mk As.toArray, t, U', L, hT, X', hL, e1, e2, hq, st⟩
  · dsimp only [Pt.U, Pt.locs, Pt.cells, Pt.slots] at X' e1 e2 h1 h2 h3 st hcl
    subst h1; subst h2; subst h3
    exact Or.inr ⟨q, (T.setVm vm₁).calling g' mk As.toArray, t, U', L, E, ce, hT, X', hL, e1, e2, hq, hce, hcv, vx_cls hW₁ hcl, st⟩
end Runs
section Rows
variable {p : Program} {l : Launch} {e : Env} {R : Room} {s : State} {m : MethodId} {args : Array Value} {below : List Frame} {meth : Method} {c : Code} {H : Heap} {locs : List Loc} {cells slots : Nat} {Q : State → Prop}
variable {mc ms : Nat} {free : Addr → Prop} {A0 A1 : Nat → Prop} {H0 : Heap} {a : Array Value} {pc : Nat} {ls : Array Slot} {st0 rest : List Value}
theorem vx_keep {st₀ t T' : State} {L : List Loc} (h0 : st₀.heap = H) (e1 : T'.heap = t.heap) (hS : va_S A0 H0 H locs) (hA : ∀ q, q < H.size → A1 q → A0 q) (hf : ∀ q, free q → A0 q) (hL : ∀ q ∈ L, free q.base) (hF : va_F A1 st₀ t) :
    H.size ≤ T'.heap.size ∧ (∀ q : Nat, q < H.size → ¬ A1 q → T'.heap[q]? = H[q]?) ∧ va_S A0 H0 T'.heap (locs ++ L) := by
  obtain ⟨hz, hk⟩ := hF
  rw [h0] at hz hk
  exact ⟨by rw [e1]; exact hz, fun q h1 h2 => by rw [e1]; exact hk q h1 h2,
    ⟨Nat.le_trans hS.1 (by rw [e1]; exact hz), fun q h1 h2 => by rw [e1, hk q (Nat.lt_of_lt_of_le h1 hS.1) (fun z => h2 (hA q (Nat.lt_of_lt_of_le h1 hS.1) z))]; exact hS.2.1 q h1 h2, fun q hq => by
      rcases List.mem_append.mp hq with h | h
      · exact hS.2.2 q h
      · exact hf _ (hL q h)⟩⟩
theorem vx_calli {S SX : Type} {post : Int32 → S → Prop} {px : SX → Prop} {B : S → State → Prop} {BX : String → SX → State → Prop} {AX : Nat → Prop} (hr : vx_Run p l e R s m args below meth c H locs cells slots mc ms (F0 m pc ls st0) rest (va_Qi post B A1 a) (vx_X px BX AX) free) (hS : va_S A0 H0 H locs) (hA : ∀ q, q < H.size → A1 q → A0 q) (hf : ∀ q, free q → A0 q) (hAX : ∀ q, q < H.size → AX q → A0 q)
    (kx : ∀ (E : String) (ce : Cell) (q9 : Addr) (u : SX) (t : State) (H1 : Heap) (locs1 : List Loc), t.heap = H1 → s.vm.Alike t.vm → px u → BX E u t → H.size ≤ H1.size → (∀ q : Nat, q < H.size → ¬ AX q → H1[q]? = H[q]?) → va_S A0 H0 H1 locs1 → H1[q9]? = some ce → ce.vm = .none → s.vm.findClass E = some ce.cls → vx_W p l e R s m args below meth c H1 locs1 (cells + mc) (slots + ms) Q (F0 m pc ls rest) q9)
    (kk : ∀ (r : Int32) (u : S) (t : State) (H1 : Heap) (locs1 : List Loc), t.heap = H1 → s.vm.Alike t.vm → post r u → B u t → H.size ≤ H1.size → (∀ q : Nat, q < H.size → ¬ A1 q → H1[q]? = H[q]?) → va_S A0 H0 H1 locs1 → W p l e R s m args below meth c H1 locs1 (cells + mc) (slots + ms) Q (F0 m (pc + 3) ls (.int r :: rest))) : W p l e R s m args below meth c H locs cells slots Q (F0 m pc ls st0) := by
  intro T hT X
  rcases hr T hT X with ⟨v, st₀, t, T', L, h0, X', hL, e1, e2, ⟨⟨r, u, hv, hp, hb⟩, hF⟩, st⟩ | ⟨q, st₀, t, T', L, E, ce, h0, X', hL, e1, e2, ⟨u, hp, hb, hF⟩, hce, hcv, hcl, st⟩
  · cases hv
    obtain ⟨k1, k2, k3⟩ := vx_keep h0 e1 hS hA hf hL hF
    obtain ⟨t2, a1, b1⟩ := kk r u t T'.heap (locs ++ L) e1.symm (by rw [← e2]; exact X'.warmed.alike) hp hb k1 k2 k3 T' rfl X'
    exact ⟨t2, st t2 a1, b1⟩
  · obtain ⟨k1, k2, k3⟩ := vx_keep h0 e1 hS hAX hf hL hF
    obtain ⟨t2, a1, b1⟩ := kx E ce q u t T'.heap (locs ++ L) e1.symm (by rw [← e2]; exact X'.warmed.alike) hp hb k1 k2 k3 (by rw [e1]; exact hce) hcv hcl T' rfl X'
    exact ⟨t2, st.trans a1, b1⟩
theorem vx_calll {S SX : Type} {post : Int64 → S → Prop} {px : SX → Prop} {B : S → State → Prop} {BX : String → SX → State → Prop} {AX : Nat → Prop} (hr : vx_Run p l e R s m args below meth c H locs cells slots mc ms (F0 m pc ls st0) rest (va_Ql post B A1 a) (vx_X px BX AX) free) (hS : va_S A0 H0 H locs) (hA : ∀ q, q < H.size → A1 q → A0 q) (hf : ∀ q, free q → A0 q) (hAX : ∀ q, q < H.size → AX q → A0 q)
    (kx : ∀ (E : String) (ce : Cell) (q9 : Addr) (u : SX) (t : State) (H1 : Heap) (locs1 : List Loc), t.heap = H1 → s.vm.Alike t.vm → px u → BX E u t → H.size ≤ H1.size → (∀ q : Nat, q < H.size → ¬ AX q → H1[q]? = H[q]?) → va_S A0 H0 H1 locs1 → H1[q9]? = some ce → ce.vm = .none → s.vm.findClass E = some ce.cls → vx_W p l e R s m args below meth c H1 locs1 (cells + mc) (slots + ms) Q (F0 m pc ls rest) q9)
    (kk : ∀ (r : Int64) (u : S) (t : State) (H1 : Heap) (locs1 : List Loc), t.heap = H1 → s.vm.Alike t.vm → post r u → B u t → H.size ≤ H1.size → (∀ q : Nat, q < H.size → ¬ A1 q → H1[q]? = H[q]?) → va_S A0 H0 H1 locs1 → W p l e R s m args below meth c H1 locs1 (cells + mc) (slots + ms) Q (F0 m (pc + 3) ls (.long r :: rest))) : W p l e R s m args below meth c H locs cells slots Q (F0 m pc ls st0) := by
  intro T hT X
  rcases hr T hT X with ⟨v, st₀, t, T', L, h0, X', hL, e1, e2, ⟨⟨r, u, hv, hp, hb⟩, hF⟩, st⟩ | ⟨q, st₀, t, T', L, E, ce, h0, X', hL, e1, e2, ⟨u, hp, hb, hF⟩, hce, hcv, hcl, st⟩
  · cases hv
    obtain ⟨k1, k2, k3⟩ := vx_keep h0 e1 hS hA hf hL hF
    obtain ⟨t2, a1, b1⟩ := kk r u t T'.heap (locs ++ L) e1.symm (by rw [← e2]; exact X'.warmed.alike) hp hb k1 k2 k3 T' rfl X'
    exact ⟨t2, st t2 a1, b1⟩
  · obtain ⟨k1, k2, k3⟩ := vx_keep h0 e1 hS hAX hf hL hF
    obtain ⟨t2, a1, b1⟩ := kx E ce q u t T'.heap (locs ++ L) e1.symm (by rw [← e2]; exact X'.warmed.alike) hp hb k1 k2 k3 (by rw [e1]; exact hce) hcv hcl T' rfl X'
    exact ⟨t2, st.trans a1, b1⟩
theorem vx_callf {S SX : Type} {post : UInt32 → S → Prop} {px : SX → Prop} {B : S → State → Prop} {BX : String → SX → State → Prop} {AX : Nat → Prop} (hr : vx_Run p l e R s m args below meth c H locs cells slots mc ms (F0 m pc ls st0) rest (va_Qf post B A1 a) (vx_X px BX AX) free) (hS : va_S A0 H0 H locs) (hA : ∀ q, q < H.size → A1 q → A0 q) (hf : ∀ q, free q → A0 q) (hAX : ∀ q, q < H.size → AX q → A0 q)
    (kx : ∀ (E : String) (ce : Cell) (q9 : Addr) (u : SX) (t : State) (H1 : Heap) (locs1 : List Loc), t.heap = H1 → s.vm.Alike t.vm → px u → BX E u t → H.size ≤ H1.size → (∀ q : Nat, q < H.size → ¬ AX q → H1[q]? = H[q]?) → va_S A0 H0 H1 locs1 → H1[q9]? = some ce → ce.vm = .none → s.vm.findClass E = some ce.cls → vx_W p l e R s m args below meth c H1 locs1 (cells + mc) (slots + ms) Q (F0 m pc ls rest) q9)
    (kk : ∀ (r : UInt32) (u : S) (t : State) (H1 : Heap) (locs1 : List Loc), t.heap = H1 → s.vm.Alike t.vm → post r u → B u t → H.size ≤ H1.size → (∀ q : Nat, q < H.size → ¬ A1 q → H1[q]? = H[q]?) → va_S A0 H0 H1 locs1 → W p l e R s m args below meth c H1 locs1 (cells + mc) (slots + ms) Q (F0 m (pc + 3) ls (.float r :: rest))) : W p l e R s m args below meth c H locs cells slots Q (F0 m pc ls st0) := by
  intro T hT X
  rcases hr T hT X with ⟨v, st₀, t, T', L, h0, X', hL, e1, e2, ⟨⟨r, u, hv, hp, hb⟩, hF⟩, st⟩ | ⟨q, st₀, t, T', L, E, ce, h0, X', hL, e1, e2, ⟨u, hp, hb, hF⟩, hce, hcv, hcl, st⟩
  · cases hv
    obtain ⟨k1, k2, k3⟩ := vx_keep h0 e1 hS hA hf hL hF
    obtain ⟨t2, a1, b1⟩ := kk r u t T'.heap (locs ++ L) e1.symm (by rw [← e2]; exact X'.warmed.alike) hp hb k1 k2 k3 T' rfl X'
    exact ⟨t2, st t2 a1, b1⟩
  · obtain ⟨k1, k2, k3⟩ := vx_keep h0 e1 hS hAX hf hL hF
    obtain ⟨t2, a1, b1⟩ := kx E ce q u t T'.heap (locs ++ L) e1.symm (by rw [← e2]; exact X'.warmed.alike) hp hb k1 k2 k3 (by rw [e1]; exact hce) hcv hcl T' rfl X'
    exact ⟨t2, st.trans a1, b1⟩
theorem vx_calld {S SX : Type} {post : UInt64 → S → Prop} {px : SX → Prop} {B : S → State → Prop} {BX : String → SX → State → Prop} {AX : Nat → Prop} (hr : vx_Run p l e R s m args below meth c H locs cells slots mc ms (F0 m pc ls st0) rest (va_Qd post B A1 a) (vx_X px BX AX) free) (hS : va_S A0 H0 H locs) (hA : ∀ q, q < H.size → A1 q → A0 q) (hf : ∀ q, free q → A0 q) (hAX : ∀ q, q < H.size → AX q → A0 q)
    (kx : ∀ (E : String) (ce : Cell) (q9 : Addr) (u : SX) (t : State) (H1 : Heap) (locs1 : List Loc), t.heap = H1 → s.vm.Alike t.vm → px u → BX E u t → H.size ≤ H1.size → (∀ q : Nat, q < H.size → ¬ AX q → H1[q]? = H[q]?) → va_S A0 H0 H1 locs1 → H1[q9]? = some ce → ce.vm = .none → s.vm.findClass E = some ce.cls → vx_W p l e R s m args below meth c H1 locs1 (cells + mc) (slots + ms) Q (F0 m pc ls rest) q9)
    (kk : ∀ (r : UInt64) (u : S) (t : State) (H1 : Heap) (locs1 : List Loc), t.heap = H1 → s.vm.Alike t.vm → post r u → B u t → H.size ≤ H1.size → (∀ q : Nat, q < H.size → ¬ A1 q → H1[q]? = H[q]?) → va_S A0 H0 H1 locs1 → W p l e R s m args below meth c H1 locs1 (cells + mc) (slots + ms) Q (F0 m (pc + 3) ls (.double r :: rest))) : W p l e R s m args below meth c H locs cells slots Q (F0 m pc ls st0) := by
  intro T hT X
  rcases hr T hT X with ⟨v, st₀, t, T', L, h0, X', hL, e1, e2, ⟨⟨r, u, hv, hp, hb⟩, hF⟩, st⟩ | ⟨q, st₀, t, T', L, E, ce, h0, X', hL, e1, e2, ⟨u, hp, hb, hF⟩, hce, hcv, hcl, st⟩
  · cases hv
    obtain ⟨k1, k2, k3⟩ := vx_keep h0 e1 hS hA hf hL hF
    obtain ⟨t2, a1, b1⟩ := kk r u t T'.heap (locs ++ L) e1.symm (by rw [← e2]; exact X'.warmed.alike) hp hb k1 k2 k3 T' rfl X'
    exact ⟨t2, st t2 a1, b1⟩
  · obtain ⟨k1, k2, k3⟩ := vx_keep h0 e1 hS hAX hf hL hF
    obtain ⟨t2, a1, b1⟩ := kx E ce q u t T'.heap (locs ++ L) e1.symm (by rw [← e2]; exact X'.warmed.alike) hp hb k1 k2 k3 (by rw [e1]; exact hce) hcv hcl T' rfl X'
    exact ⟨t2, st.trans a1, b1⟩
theorem vx_callv {S SX : Type} {post : S → Prop} {px : SX → Prop} {B : S → State → Prop} {BX : String → SX → State → Prop} {AX : Nat → Prop} (hr : vx_Run p l e R s m args below meth c H locs cells slots mc ms (F0 m pc ls st0) rest (va_Qv post B A1 a) (vx_X px BX AX) free) (hS : va_S A0 H0 H locs) (hA : ∀ q, q < H.size → A1 q → A0 q) (hf : ∀ q, free q → A0 q) (hAX : ∀ q, q < H.size → AX q → A0 q)
    (kx : ∀ (E : String) (ce : Cell) (q9 : Addr) (u : SX) (t : State) (H1 : Heap) (locs1 : List Loc), t.heap = H1 → s.vm.Alike t.vm → px u → BX E u t → H.size ≤ H1.size → (∀ q : Nat, q < H.size → ¬ AX q → H1[q]? = H[q]?) → va_S A0 H0 H1 locs1 → H1[q9]? = some ce → ce.vm = .none → s.vm.findClass E = some ce.cls → vx_W p l e R s m args below meth c H1 locs1 (cells + mc) (slots + ms) Q (F0 m pc ls rest) q9)
    (kk : ∀ (u : S) (t : State) (H1 : Heap) (locs1 : List Loc), t.heap = H1 → s.vm.Alike t.vm → post u → B u t → H.size ≤ H1.size → (∀ q : Nat, q < H.size → ¬ A1 q → H1[q]? = H[q]?) → va_S A0 H0 H1 locs1 → W p l e R s m args below meth c H1 locs1 (cells + mc) (slots + ms) Q (F0 m (pc + 3) ls (rest))) : W p l e R s m args below meth c H locs cells slots Q (F0 m pc ls st0) := by
  intro T hT X
  rcases hr T hT X with ⟨v, st₀, t, T', L, h0, X', hL, e1, e2, ⟨⟨u, hv, hp, hb⟩, hF⟩, st⟩ | ⟨q, st₀, t, T', L, E, ce, h0, X', hL, e1, e2, ⟨u, hp, hb, hF⟩, hce, hcv, hcl, st⟩
  · cases hv
    obtain ⟨k1, k2, k3⟩ := vx_keep h0 e1 hS hA hf hL hF
    obtain ⟨t2, a1, b1⟩ := kk u t T'.heap (locs ++ L) e1.symm (by rw [← e2]; exact X'.warmed.alike) hp hb k1 k2 k3 T' rfl X'
    exact ⟨t2, st t2 a1, b1⟩
  · obtain ⟨k1, k2, k3⟩ := vx_keep h0 e1 hS hAX hf hL hF
    obtain ⟨t2, a1, b1⟩ := kx E ce q u t T'.heap (locs ++ L) e1.symm (by rw [← e2]; exact X'.warmed.alike) hp hb k1 k2 k3 (by rw [e1]; exact hce) hcv hcl T' rfl X'
    exact ⟨t2, st.trans a1, b1⟩
end Rows
section Ends
variable {p : Program} {l : Launch} {e : Env} {R : Room} {s : State} {m : MethodId} {args : Array Value} {below : List Frame} {meth : Method} {c : Code} {H : Heap} {locs : List Loc} {cells slots : Nat} {Q : State → Prop}
variable {mc ms : Nat} {free : Addr → Prop} {A0 A1 : Nat → Prop} {H0 : Heap} {a : Array Value} {ls : Array Slot} {st0 rest : List Value}
variable {Qc : Array Value → State → Outcome → State → Prop} {XC : String → State → State → Prop}
/-- what a body that may throw owes at its end -/
def vx_MQ (below : List Frame) (Qc : Array Value → State → Outcome → State → Prop) (XC : String → State → State → Prop) (a : Array Value) (s : State) (mc ms : Nat) (free : Addr → Prop) : State → Prop := fun t =>
  ∃ o, t.status = .running ∧ Ended t below o ∧ vx_Q Qc XC mc ms free a s o t
theorem vx_ret {g : JFrame} {mc ms : Nat} (k : W p l e R s m args below meth c H locs cells slots (MQ below Qc args s mc ms free) g) : W p l e R s m args below meth c H locs cells slots (vx_MQ below Qc XC args s mc ms free) g := by
  intro T hT X
  obtain ⟨t, a1, o, b1, b2, b3, b4⟩ := k T hT X
  exact ⟨t, a1, o, b1, b2, Or.inl ⟨b3, b4⟩⟩
/-- not caught here: it goes on to the caller -/
theorem vx_widen {g : JFrame} {q : Addr} {k n : Nat} (h1 : cells ≤ k) (h2 : slots ≤ n) (kk : vx_W p l e R s m args below meth c H locs k n Q g q) : vx_W p l e R s m args below meth c H locs cells slots Q g q := fun T hT X => kk T hT (stand_widen X h1 h2)
theorem vx_out {pc : Nat} {E : String} {ce : Cell} {q : Addr} {mc ms : Nat} (hout : ∀ x ∈ c.exceptionTable.toList, covers x pc = false) (hlocks : meth.locks = false) (hcell : H[q]? = some ce) (hv : ce.vm = .none) (hcl : s.vm.findClass E = some ce.cls)
    (hx : ∀ t : State, t.heap = H → s.vm.Alike t.vm → XC E s t) (hf : ∀ z ∈ locs, free z.base) (hc : cells ≤ mc) (hs : slots ≤ ms) :
    vx_W p l e R s m args below meth c H locs cells slots (vx_MQ below Qc XC args s mc ms free) (F0 m pc ls rest) q := by
  intro T hT X
  obtain ⟨st1, hrun, hend, hW, hsm⟩ := X.leaveThrown q (g := F0 m pc ls rest) rfl rfl rfl hout hlocks
  have hcell9 : (T.setFrames (.throwing q :: below)).heap[q]? = some ce := by
    show T.heap[q]? = some ce
    rw [hT]; exact hcell
  exact ⟨_, st1, .threw q, hrun, hend, Or.inr ⟨q, rfl, E, ce, locs, hx _ hT hW.alike, hcell9, hv, hcl, hW, hsm.mono hc hs, hf⟩⟩
theorem vx_frame {U : State} {k n : Nat} (h : s.sameButNew ({ U with vm := s.vm } : State) locs k n) : s.heap.size ≤ U.heap.size ∧ ∀ q : Nat, q < s.heap.size → (∀ z ∈ locs, z.base ≠ q) → U.heap[q]? = s.heap[q]? := by
  obtain ⟨-, h2, -, -, -, h6⟩ := h
  refine ⟨h2, fun q hq hz => ?_⟩
  obtain ⟨c9, e1, e2, e3, e4⟩ := h6 q _ (Array.getElem?_eq_getElem hq)
  have hs : c9.slots = (s.heap[q]).slots := Array.ext_getElem? fun i => e4 i fun hm => hz _ hm rfl
  have h9 : c9 = s.heap[q] := by
    rw [hs] at e2
    exact e2
  have e5 : U.heap[q]? = some c9 := e1
  rw [e5, h9, Array.getElem?_eq_getElem hq]
/-- the words of a throw but the four that speak of the heap -/
def vx_no (w : Cond) : Bool := decide (w ≠ .isRef (.static Bundle.tN "UNASSIGNED_STACK" Bundle.steD)) && decide (w ≠ .isRef (.static Bundle.tN "SUPPRESSED_SENTINEL" Bundle.listD)) && decide (w ≠ .laysStatic Bundle.tN "UNASSIGNED_STACK" Bundle.steD) && decide (w ≠ .laysStatic Bundle.tN "SUPPRESSED_SENTINEL" Bundle.listD)
def vx_at0 (own : String) (ic : Nat) (X : String) (names : List String) : List Cond := (Bundle.ownAtoms0 own ic X names).filter vx_no
def vx_atS (own : String) (ic : Nat) (X : String) (names : List String) : List Cond := (Bundle.ownAtoms own ic X names).filter vx_no
/-- a word that the tables alone decide, or a good one -/
def vx_ot (w : Cond) : Bool := w.onTables || goodWord w
theorem vx_ot_at {args a' : Array Value} {s U : State} {w : Cond} (hW : s.WarmedH U.vm) (hvm : s.vm = U.vm) (hg : vx_ot w = true) (h : w.before args s = true) : w.before a' U = true := by
  simp only [vx_ot, Bool.or_eq_true] at hg
  rcases hg with hg | hg
  · exact va_tabs hg hvm h
  · exact word_at hW (good_of_word hg) h
/-- a list's words: the good ones out of the method's own list, the others by premises of their own -/
theorem vx_hat {args : Array Value} {s : State} {L B : List Cond} (h1 : ∀ w ∈ L.filter goodWord, w.before args s = true) (h2 : ∀ w ∈ L.filter (fun w => !goodWord w), w ∈ B) (h3 : ∀ w ∈ B, w.before args s = true) : ∀ w ∈ L, w.before args s = true := by
  intro w hw
  by_cases g : goodWord w = true
  · exact h1 w (List.mem_filter.mpr ⟨hw, g⟩)
  · refine h3 w (h2 w (List.mem_filter.mpr ⟨hw, ?_⟩))
    show (!goodWord w) = true
    cases hgw : goodWord w
    · rfl
    · exact absurd hgw g
theorem vx_c {args : Array Value} {s : State} {w : Cond} {B : List Cond} (h : w.before args s = true) (t : ∀ w ∈ B, w.before args s = true) : ∀ w' ∈ w :: B, w'.before args s = true := fun w' h' => (List.mem_cons.mp h').elim (fun e => by rw [e]; exact h) (t w')
theorem vx_n {args : Array Value} {s : State} : ∀ w ∈ ([] : List Cond), w.before args s = true := fun _ h => nomatch h
theorem vx_own {args : Array Value} {s : State} {L : List Cond} (h1 : ∀ w ∈ L.filter vx_no, w.before args s = true)
    (hU : (Cond.isRef (.static Bundle.tN "UNASSIGNED_STACK" Bundle.steD)).before args s = true) (hN : (Cond.isRef (.static Bundle.tN "SUPPRESSED_SENTINEL" Bundle.listD)).before args s = true)
    (lU : (Cond.laysStatic Bundle.tN "UNASSIGNED_STACK" Bundle.steD).before args s = true) (lN : (Cond.laysStatic Bundle.tN "SUPPRESSED_SENTINEL" Bundle.listD).before args s = true) : ∀ w ∈ L, w.before args s = true := by
  intro w hw
  by_cases e1 : w = .isRef (.static Bundle.tN "UNASSIGNED_STACK" Bundle.steD)
  · rw [e1]; exact hU
  · by_cases e2 : w = .isRef (.static Bundle.tN "SUPPRESSED_SENTINEL" Bundle.listD)
    · rw [e2]; exact hN
    · by_cases e3 : w = .laysStatic Bundle.tN "UNASSIGNED_STACK" Bundle.steD
      · rw [e3]; exact lU
      · by_cases e4 : w = .laysStatic Bundle.tN "SUPPRESSED_SENTINEL" Bundle.listD
        · rw [e4]; exact lN
        · exact h1 w (List.mem_filter.mpr ⟨hw, by unfold vx_no; rw [decide_eq_true e1, decide_eq_true e2, decide_eq_true e3, decide_eq_true e4]; rfl⟩)
/-- where a static field lies, its class's statics cell in H -/
def vx_L (C n d : String) (A : Nat → Prop) (U : State) (H : Heap) : Prop := ∃ (c : ClassId) (k : Class) (i : Nat) (f : Field) (a : Nat) (cell : Cell), U.vm.findClass C = some c ∧ U.fieldFound? C n d = some (c, k, i, f) ∧ f.isStatic = true ∧ k.statics = some a ∧ H[a]? = some cell ∧ cell.vm.isStatics = true ∧ cell.cls = c ∧ f.slot < cell.slots.size ∧ k.staticTypes[f.slot]? = some f.type ∧ ¬ A a
theorem vx_L.moved {C n d : String} {A : Nat → Prop} {u U : State} {H : Heap} (hvm : u.vm.Alike U.vm) (h : vx_L C n d A u H) : vx_L C n d A U H := by
  obtain ⟨c, k, i, f, a, cell, h1, h2, h3, h4, h5, h6, h7, h8, h9, h10⟩ := h
  obtain ⟨k', hi', he⟩ := State.fieldFound?_setVm hvm h2
  exact ⟨c, k', i, f, a, cell, by rw [hvm.findClass]; exact h1, hi', h3, by rw [he]; exact h4, h5, h6, h7, h8, by rw [he]; exact h9, h10⟩
theorem vx_L.kept {C n d : String} {A : Nat → Prop} {U : State} {H H1 : Heap} (h : vx_L C n d A U H) (hq : ∀ a : Nat, a < H.size → ¬ A a → H1[a]? = H[a]?) : vx_L C n d A U H1 := by
  obtain ⟨c, k, i, f, a, cell, h1, h2, h3, h4, h5, h6, h7, h8, h9, h10⟩ := h
  exact ⟨c, k, i, f, a, cell, h1, h2, h3, h4, by rw [hq a (Array.getElem?_eq_some_iff.mp h5).1 h10]; exact h5, h6, h7, h8, h9, h10⟩
theorem vx_L.narrow {C n d : String} {A B : Nat → Prop} {U : State} {H : Heap} (h : vx_L C n d A U H) (hAB : ∀ q, B q → A q) : vx_L C n d B U H := by
  obtain ⟨c, k, i, f, a, cell, h1, h2, h3, h4, h5, h6, h7, h8, h9, h10⟩ := h
  exact ⟨c, k, i, f, a, cell, h1, h2, h3, h4, h5, h6, h7, h8, h9, fun z => h10 (hAB _ z)⟩
theorem vx_L.word {C n d : String} {A : Nat → Prop} {s : State} {args : Array Value} (h : vx_L C n d A s s.heap) : (Cond.laysStatic C n d).before args s = true := by
  obtain ⟨c, k, i, f, a, cell, h1, h2, h3, h4, h5, h6, h7, h8, h9, -⟩ := h
  show (Cond.laysStatic C n d).holds args s none s [] = true
  exact Cond.laysStatic_of h1 h2 h3 h4 h5 h6 h7 h8 h9
/-- .. and what it holds: null or some reference -/
def vx_Zq (C n d : String) (A : Nat → Prop) (U : State) (H : Heap) : Prop := va_Zq C n d A U H ∧ vx_L C n d A U H
theorem vx_Zq.moved {C n d : String} {A : Nat → Prop} {u U : State} {H : Heap} (hvm : u.vm.Alike U.vm) (h : vx_Zq C n d A u H) : vx_Zq C n d A U H := ⟨va_Zq.moved hvm h.1, vx_L.moved hvm h.2⟩
theorem vx_Zq.kept {C n d : String} {A : Nat → Prop} {U : State} {H H1 : Heap} (h : vx_Zq C n d A U H) (hq : ∀ a : Nat, a < H.size → ¬ A a → H1[a]? = H[a]?) : vx_Zq C n d A U H1 := ⟨va_Zq.kept h.1 hq, vx_L.kept h.2 hq⟩
theorem vx_Zq.narrow {C n d : String} {A B : Nat → Prop} {U : State} {H : Heap} (h : vx_Zq C n d A U H) (hAB : ∀ q, B q → A q) : vx_Zq C n d B U H := ⟨va_Zq.narrow h.1 hAB, vx_L.narrow h.2 hAB⟩
theorem vx_Zqof {args : Array Value} {s : State} {C n d : String} {A : Nat → Prop} (hl : (Cond.laysStatic C n d).before args s = true) (hini : (Cond.initialized C).before args s = true) (h : (Cond.isRef (.static C n d)).before args s = true) (hA : ∀ a : Nat, a < s.heap.size → ¬ A a) : vx_Zq C n d A s s.heap := by
  refine ⟨va_Zqof hl hini h hA, ?_⟩
  obtain ⟨c, k, i, f, a, cell, h1, h2, h3, h4, h5, h6, h7, h8, h9⟩ := Cond.laysStatic_spec hl
  exact ⟨c, k, i, f, a, cell, h1, h2, h3, h4, h5, h6, h7, h8, h9, hA a (Array.getElem?_eq_some_iff.mp h5).1⟩
theorem vx_isRef {C n d : String} {v : Value} {A : Nat → Prop} {s : State} {args : Array Value} (h : va_Z C n d v A s s.heap) (hv : v.isRef = true) : (Cond.isRef (.static C n d)).before args s = true := by
  obtain ⟨cf, kf, fi, f, a, cell, h1, h2, h3, h4, h5, h6, h7, -⟩ := h
  have he : (Term.static C n d).eval args s none [] s = some v := by
    simp [Term.eval, State.fieldNamed?, h1, h2, h4, h5, h6, h7]
  simp only [Cond.before, Cond.holds, Cond.value, he]
  cases v <;> simp_all [Value.isRef]
theorem vx_isRefq {C n d : String} {A : Nat → Prop} {s : State} {args : Array Value} (h : va_Zq C n d A s s.heap) : (Cond.isRef (.static C n d)).before args s = true := by
  rcases h with h | ⟨t, h⟩
  · exact vx_isRef h rfl
  · exact vx_isRef h rfl
/-- the same frame, seen from here: as if the method were called anew in this heap -/
theorem vx_rebase {T : State} (X : Stand p l e R s m args below meth c T locs cells slots) {R' : Room} (hf : R'.frames ≤ R.frames) (hl : R'.locals ≤ R.locals) (hc : cells + R'.cells ≤ R.cells) (hs : slots + R'.slots ≤ R.slots) :
    Stand p l e R' ((T.setVm s.vm).setFrames (.invoking m args :: below)) m args below meth c T [] 0 0 := by
  have htop : (T.setVm s.vm).topJava?.isSome := X.here.top
  have hF : ((T.setVm s.vm).setFrames (.invoking m args :: below)).frames = .invoking m args :: below := State.frames_setFrames _ (State.cur_lt_of_top htop)
  obtain ⟨g₀, hg0⟩ := Option.isSome_iff_exists.mp htop
  obtain ⟨r, hr⟩ := State.topJava?_eq_some.mp hg0
  have hl9 : e.platform.stackLimits (T.setVm s.vm).me = e.platform.stackLimits s.me := X.limits
  have hb9 : (T.setVm s.vm).me.stackBytes = s.me.stackBytes := X.bytes
  refine ⟨X.admits, X.cas, X.clock, hF, ?_, X.hears, X.method, X.code, X.here, X.tail, X.warmed, ?_, ?_, ?_⟩
  · have h := X.room
    have hU : ((T.setVm s.vm).setFrames (.invoking m args :: below)).localsInUse = s.localsInUse := by
      rw [State.localsInUse_invoking hF (meth := meth) (c := c) X.method X.code, State.localsInUse_invoking X.frames X.method X.code]
    simp only [State.hasRoom, Bool.and_eq_true, decide_eq_true_eq] at h ⊢
    obtain ⟨⟨⟨⟨h1, h2, h3, h4, h5, h6⟩, h7⟩, h8⟩, h9⟩ := h
    rw [X.frames, List.length_cons] at h2 h3
    have q1 := X.heapSize
    have q2 := X.used
    simp only [hF, hU, List.length_cons, State.stackLimits_setFrames, State.stackBytes_setFrames, hl9, hb9]
    refine ⟨⟨⟨⟨by omega, by omega, by omega, by omega, by omega, h6⟩, ?_⟩, ?_⟩, X.book⟩
    · show T.heap.size + R'.cells ≤ e.platform.maxCells
      omega
    · show T.slotsUsed + R'.slots ≤ e.platform.maxSlots
      omega
  · rw [State.stackLimits_setFrames]; rfl
  · rw [State.stackBytes_setFrames]; rfl
  · refine ⟨?_, Nat.le_refl _, Nat.le_refl _, ?_, ?_, fun a c9 h9 => ⟨c9, h9, rfl, rfl, fun _ _ => rfl⟩⟩
    · obtain ⟨t, ht, -⟩ := State.frames_cons hr
      show T.setVm s.vm = { ((T.setVm s.vm).setFrames (.invoking m args :: below)).setFrames (T.setVm s.vm).frames with heap := T.heap, slotsUsed := T.slotsUsed }
      rw [State.setFrames_setFrames, State.setFrames_self ht]
      rfl
    · show T.slotsUsed = T.slotsUsed + ((T.heap.toList.drop T.heap.size).map (·.slots.size)).sum
      rw [List.drop_eq_nil_of_le (Nat.le_of_eq Array.length_toList)]
      rfl
    · show ((T.heap.toList.drop T.heap.size).map (·.slots.size)).sum ≤ 0
      rw [List.drop_eq_nil_of_le (Nat.le_of_eq Array.length_toList)]
      exact Nat.le_refl _
/-- 'throw new E()': new; dup; invokespecial; athrow -/
theorem vx_throw0 {cc : ByteArray} {pc : Nat} (hexec : p.tables.exec = Jvm.exec) (hb : c.code = cc) (hl : l.stackTraces = false) {own cls : String} {names : List String} {ik ic mc ms : Nat} {A : Nat → Prop}
    (hown : s.vm.findClass own = some m.cls) (hcls : Bundle.fit cls = true) (hnames : ∀ n ∈ names, Bundle.fit n = true)
    (hk : (Cond.classLink own ik cls).before args s = true) (hini : (Cond.initialized cls).before args s = true) (hat : ∀ w ∈ vx_at0 own ic cls names, w.before args s = true)
    (hgood : ∀ w ∈ Cond.classLink own ik cls :: Cond.initialized cls :: vx_at0 own ic cls names, vx_ot w = true)
    (hU : vx_Zq Bundle.tN "UNASSIGNED_STACK" Bundle.steD A s s.heap) (hN : vx_Zq Bundle.tN "SUPPRESSED_SENTINEL" Bundle.listD A s s.heap) (hS : va_S A s.heap H locs) (hsize : ls.size = c.maxLocals)
    (d0 : decode cc pc = .ok (.new ik, 3)) (d3 : decode cc (pc + 3) = .ok (.dup, 1)) (d4 : decode cc (pc + 4) = .ok (.invokespecial ic, 3)) (d7 : decode cc (pc + 7) = .ok (.athrow, 1))
    (hout : ∀ x ∈ c.exceptionTable.toList, covers x (pc + 7) = false)
    (hRframes : names.length + 3 < R.frames) (hRlocals : (rest.map fun v => v.category).sum + (13 * (names.length + 1) + 42) ≤ R.locals) (hRcells : cells + 1 ≤ R.cells) (hRslots : slots + 6 ≤ R.slots) (hlocks : meth.locks = false)
    (hx : ∀ t : State, s.vm.Alike t.vm → H.size ≤ t.heap.size → (∀ q : Nat, q < H.size → t.heap[q]? = H[q]?) → XC cls s t)
    (hf : ∀ z ∈ locs, free z.base) (hc : cells + 1 ≤ mc) (hs : slots + 6 ≤ ms) :
    W p l e R s m args below meth c H locs cells slots (vx_MQ below Qc XC args s mc ms free) (F0 m pc ls rest) := by
  intro T hT X
  have htr : e.platform.stackTraces = false := (show e.platform.stackTraces = l.stackTraces by rw [X.admits.platform]).trans hl
  have Y := vx_rebase X (R' := { frames := R.frames, locals := R.locals, cells := 1, slots := 6 }) (Nat.le_refl _) (Nat.le_refl _) hRcells hRslots
  obtain ⟨s', hA⟩ : ∃ z, z = (T.setVm s.vm).setFrames (.invoking m args :: below) := ⟨_, rfl⟩
  rw [← hA] at Y
  have hvm : s'.vm = s.vm := by rw [hA]; rfl
  have hhp : s'.heap = H := by rw [hA]; exact hT
  have hW0 : s.WarmedH s'.vm := by rw [hvm]; exact State.WarmedH.refl s
  have hat' : ∀ w ∈ vx_at0 own ic cls names, w.before args s' = true := fun w hw => vx_ot_at hW0 hvm.symm (hgood w (List.mem_cons_of_mem _ (List.mem_cons_of_mem _ hw))) (hat w hw)
  have hk' : (Cond.classLink own ik cls).before args s' = true := vx_ot_at hW0 hvm.symm (hgood _ List.mem_cons_self) hk
  have hini' : (Cond.initialized cls).before args s' = true := vx_ot_at hW0 hvm.symm (hgood _ (List.mem_cons_of_mem _ List.mem_cons_self)) hini
  have hU' : vx_Zq Bundle.tN "UNASSIGNED_STACK" Bundle.steD A s' s'.heap := by rw [hhp]; exact vx_Zq.moved hW0.alike (hU.kept hS.2.1)
  have hN' : vx_Zq Bundle.tN "SUPPRESSED_SENTINEL" Bundle.listD A s' s'.heap := by rw [hhp]; exact vx_Zq.moved hW0.alike (hN.kept hS.2.1)
  have h : ∀ w ∈ Bundle.ownAtoms0 own ic cls names, w.before args s' = true := vx_own hat' (vx_isRefq hU'.1) (vx_isRefq hN'.1) hU'.2.word hN'.2.word
  have hown' : s'.vm.findClass own = some m.cls := by rw [hvm]; exact hown
  have hins : (Cond.instantiable cls 6).before args s' = true := h _ (by simp [Bundle.ownAtoms0])
  obtain ⟨vm₁, cX, kX, hfX, hkX, -, -, X₁, st1⟩ := Y.newCold hexec (own := own) (C := cls) (index := ik) (n := 6) hown' hk' hins hini'
    (g := F0 m pc ls rest) rfl (by rw [hb]; exact d0) (Nat.le_refl _) (Nat.le_refl _)
  generalize hT1 : (T.setVm vm₁).pushCell { cls := cX, slots := kX.instanceTypes.map defaultValue, vm := .none } = T1 at X₁ st1
  have hcat : (Value.ref T.heap.size).category = 1 := rfl
  have hcellA : T1.heap[T.heap.size]? = some (freshCell cX kX) := by rw [← hT1]; exact State.heap_pushCell_size _ _
  have d3' : decode c.code (pc + 3) = .ok (.dup, 1) := by rw [hb]; exact d3
  obtain ⟨U, hsteps, hrun, hend, hW, hsame, ce, hce, hO⟩ := X₁.ctorThrow0 hexec htr (own := own) (cls := cls) (names := names) (ic := ic) hown' hcls hnames h (fun x hx => nomatch hx) hfX hkX hcellA (by rw [hhp, hT]; exact Nat.le_refl _)
    (g := { method := m, pc := pc + 4, locals := ls, stack := .ref T.heap.size :: .ref T.heap.size :: rest, locked := none }) rfl hsize rfl rfl (rest := rest) rfl
    (by rw [hb]; exact d4) (by rw [hb]; exact d7) hout hRframes (by simp only [List.map_cons, List.sum_cons, hcat]; omega) hlocks
  obtain ⟨f1, f2⟩ := vx_frame hsame
  rw [hhp] at f1 f2
  have hWs : s.WarmedH U.vm := State.WarmedH.trans hW0 hW
  have hcl : s.vm.findClass cls = some ce.cls := by
    have h9 := hO.cls
    rw [hvm] at h9
    exact h9
  have hall : s.sameButNew ({ U with vm := s.vm } : State) locs mc ms := by
    subst hA
    obtain ⟨e1, e2⟩ := hsame
    rw [State.setFrames_setFrames] at e1
    have h2 : (T.setVm s.vm).sameButNew ({ U with vm := s.vm } : State) [] (0 + 1) (0 + 6) := ⟨e1, e2⟩
    have h3 := X.same.trans h2
    rw [List.append_nil] at h3
    exact h3.mono hc hs
  refine ⟨U, ?_, .threw T.heap.size, hrun, hend, Or.inr ⟨T.heap.size, rfl, cls, ce, locs, hx U hWs.alike f1 (fun q hq => f2 q hq (fun z hz => nomatch hz)), hce, hO.vm, hcl, hWs, hall, hf⟩⟩
  refine st1 _ ?_
  show Steps p.tables e below (T1.setTop { method := m, pc := pc + 3, locals := ls, stack := .ref T.heap.size :: rest, locked := none }) _
  jvm_step X₁.here [X₁.here.top, hexec, d3', Value.category]
  exact hsteps
/-- 'throw new E("text")': new; dup; ldc; invokespecial; athrow -/
theorem vx_throwS {cc : ByteArray} {pc : Nat} (hexec : p.tables.exec = Jvm.exec) (hb : c.code = cc) (hl : l.stackTraces = false) {own cls text : String} {names : List String} {ik is ic mc ms sa : Nat} {A : Nat → Prop}
    (hown : s.vm.findClass own = some m.cls) (hcls : Bundle.fit cls = true) (hnames : ∀ n ∈ names, Bundle.fit n = true)
    (hk : (Cond.classLink own ik cls).before args s = true) (hini : (Cond.initialized cls).before args s = true) (hstr : vk_R own is text sa s) (hat : ∀ w ∈ vx_atS own ic cls names, w.before args s = true)
    (hgood : ∀ w ∈ Cond.classLink own ik cls :: Cond.initialized cls :: vx_atS own ic cls names, vx_ot w = true)
    (hU : vx_Zq Bundle.tN "UNASSIGNED_STACK" Bundle.steD A s s.heap) (hN : vx_Zq Bundle.tN "SUPPRESSED_SENTINEL" Bundle.listD A s s.heap) (hS : va_S A s.heap H locs) (hsize : ls.size = c.maxLocals)
    (d0 : decode cc pc = .ok (.new ik, 3)) (d3 : decode cc (pc + 3) = .ok (.dup, 1)) (d4 : decode cc (pc + 4) = .ok (.ldc is, 2)) (d6 : decode cc (pc + 6) = .ok (.invokespecial ic, 3)) (d9 : decode cc (pc + 9) = .ok (.athrow, 1))
    (hout : ∀ x ∈ c.exceptionTable.toList, covers x (pc + 9) = false)
    (hRframes : names.length + 3 < R.frames) (hRlocals : (rest.map fun v => v.category).sum + (13 * (names.length + 1) + 43) ≤ R.locals) (hRcells : cells + 1 ≤ R.cells) (hRslots : slots + 6 ≤ R.slots) (hlocks : meth.locks = false)
    (hx : ∀ t : State, s.vm.Alike t.vm → H.size ≤ t.heap.size → (∀ q : Nat, q < H.size → t.heap[q]? = H[q]?) → XC cls s t)
    (hf : ∀ z ∈ locs, free z.base) (hc : cells + 1 ≤ mc) (hs : slots + 6 ≤ ms) :
    W p l e R s m args below meth c H locs cells slots (vx_MQ below Qc XC args s mc ms free) (F0 m pc ls rest) := by
  intro T hT X
  have htr : e.platform.stackTraces = false := (show e.platform.stackTraces = l.stackTraces by rw [X.admits.platform]).trans hl
  have Y := vx_rebase X (R' := { frames := R.frames, locals := R.locals, cells := 1, slots := 6 }) (Nat.le_refl _) (Nat.le_refl _) hRcells hRslots
  obtain ⟨s', hA⟩ : ∃ z, z = (T.setVm s.vm).setFrames (.invoking m args :: below) := ⟨_, rfl⟩
  rw [← hA] at Y
  have hvm : s'.vm = s.vm := by rw [hA]; rfl
  have hhp : s'.heap = H := by rw [hA]; exact hT
  have hW0 : s.WarmedH s'.vm := by rw [hvm]; exact State.WarmedH.refl s
  have hat' : ∀ w ∈ vx_atS own ic cls names, w.before args s' = true := fun w hw => vx_ot_at hW0 hvm.symm (hgood w (List.mem_cons_of_mem _ (List.mem_cons_of_mem _ hw))) (hat w hw)
  have hk' : (Cond.classLink own ik cls).before args s' = true := vx_ot_at hW0 hvm.symm (hgood _ List.mem_cons_self) hk
  have hini' : (Cond.initialized cls).before args s' = true := vx_ot_at hW0 hvm.symm (hgood _ (List.mem_cons_of_mem _ List.mem_cons_self)) hini
  have hU' : vx_Zq Bundle.tN "UNASSIGNED_STACK" Bundle.steD A s' s'.heap := by rw [hhp]; exact vx_Zq.moved hW0.alike (hU.kept hS.2.1)
  have hN' : vx_Zq Bundle.tN "SUPPRESSED_SENTINEL" Bundle.listD A s' s'.heap := by rw [hhp]; exact vx_Zq.moved hW0.alike (hN.kept hS.2.1)
  have h : ∀ w ∈ Bundle.ownAtoms own ic cls names, w.before args s' = true := vx_own hat' (vx_isRefq hU'.1) (vx_isRefq hN'.1) hU'.2.word hN'.2.word
  have hown' : s'.vm.findClass own = some m.cls := by rw [hvm]; exact hown
  have hins : (Cond.instantiable cls 6).before args s' = true := h _ (by simp [Bundle.ownAtoms])
  obtain ⟨vm₁, cX, kX, hfX, hkX, -, -, X₁, st1⟩ := Y.newCold hexec (own := own) (C := cls) (index := ik) (n := 6) hown' hk' hins hini'
    (g := F0 m pc ls rest) rfl (by rw [hb]; exact d0) (Nat.le_refl _) (Nat.le_refl _)
  generalize hT1 : (T.setVm vm₁).pushCell { cls := cX, slots := kX.instanceTypes.map defaultValue, vm := .none } = T1 at X₁ st1
  have hcat : (Value.ref T.heap.size).category = 1 := rfl
  have hcellA : T1.heap[T.heap.size]? = some (freshCell cX kX) := by rw [← hT1]; exact State.heap_pushCell_size _ _
  have d3' : decode c.code (pc + 3) = .ok (.dup, 1) := by rw [hb]; exact d3
  have d4' : decode c.code (pc + 4) = .ok (.ldc is, 2) := by rw [hb]; exact d4
  have hstr' : vk_R own is text sa s' := vk_R.warm hW0 hstr
  obtain ⟨U, hsteps, hrun, hend, hW, hsame, ce, hce, hO⟩ := X₁.ctorThrowS hexec htr (own := own) (cls := cls) (names := names) (ic := ic) hown' hcls hnames h (fun x hx => nomatch hx) hfX hkX hcellA (by rw [hhp, hT]; exact Nat.le_refl _) (msg := .ref sa) rfl
    (g := { method := m, pc := pc + 6, locals := ls, stack := .ref sa :: .ref T.heap.size :: .ref T.heap.size :: rest, locked := none }) rfl hsize rfl rfl (rest := rest) rfl
    (by rw [hb]; exact d6) (by rw [hb]; exact d9) hout hRframes (by simp only [List.map_cons, List.sum_cons, hcat]; omega) hlocks
  obtain ⟨f1, f2⟩ := vx_frame hsame
  rw [hhp] at f1 f2
  have hWs : s.WarmedH U.vm := State.WarmedH.trans hW0 hW
  have hcl : s.vm.findClass cls = some ce.cls := by
    have h9 := hO.cls
    rw [hvm] at h9
    exact h9
  have hall : s.sameButNew ({ U with vm := s.vm } : State) locs mc ms := by
    subst hA
    obtain ⟨e1, e2⟩ := hsame
    rw [State.setFrames_setFrames] at e1
    have h2 : (T.setVm s.vm).sameButNew ({ U with vm := s.vm } : State) [] (0 + 1) (0 + 6) := ⟨e1, e2⟩
    have h3 := X.same.trans h2
    rw [List.append_nil] at h3
    exact h3.mono hc hs
  refine ⟨U, ?_, .threw T.heap.size, hrun, hend, Or.inr ⟨T.heap.size, rfl, cls, ce, locs, hx U hWs.alike f1 (fun q hq => f2 q hq (fun z hz => nomatch hz)), hce, hO.vm, hcl, hWs, hall, hf⟩⟩
  refine st1 _ ?_
  show Steps p.tables e below (T1.setTop { method := m, pc := pc + 3, locals := ls, stack := .ref T.heap.size :: rest, locked := none }) _
  jvm_step X₁.here [X₁.here.top, hexec, d3', Value.category]
  exact X₁.ldcString hexec (own := own) (text := text) (index := is) (a := sa) hown' hstr'.1 hstr'.2
    (g := { method := m, pc := pc + 4, locals := ls, stack := .ref T.heap.size :: .ref T.heap.size :: rest, locked := none }) rfl d4' _ hsteps
/-- 'throw new E("text")', the text by a wide index -/
theorem vx_throwSW {cc : ByteArray} {pc : Nat} (hexec : p.tables.exec = Jvm.exec) (hb : c.code = cc) (hl : l.stackTraces = false) {own cls text : String} {names : List String} {ik is ic mc ms sa : Nat} {A : Nat → Prop}
    (hown : s.vm.findClass own = some m.cls) (hcls : Bundle.fit cls = true) (hnames : ∀ n ∈ names, Bundle.fit n = true)
    (hk : (Cond.classLink own ik cls).before args s = true) (hini : (Cond.initialized cls).before args s = true) (hstr : vk_R own is text sa s) (hat : ∀ w ∈ vx_atS own ic cls names, w.before args s = true)
    (hgood : ∀ w ∈ Cond.classLink own ik cls :: Cond.initialized cls :: vx_atS own ic cls names, vx_ot w = true)
    (hU : vx_Zq Bundle.tN "UNASSIGNED_STACK" Bundle.steD A s s.heap) (hN : vx_Zq Bundle.tN "SUPPRESSED_SENTINEL" Bundle.listD A s s.heap) (hS : va_S A s.heap H locs) (hsize : ls.size = c.maxLocals)
    (d0 : decode cc pc = .ok (.new ik, 3)) (d3 : decode cc (pc + 3) = .ok (.dup, 1)) (d4 : decode cc (pc + 4) = .ok (.ldc_w is, 3)) (d7 : decode cc (pc + 7) = .ok (.invokespecial ic, 3)) (d10 : decode cc (pc + 10) = .ok (.athrow, 1))
    (hout : ∀ x ∈ c.exceptionTable.toList, covers x (pc + 10) = false)
    (hRframes : names.length + 3 < R.frames) (hRlocals : (rest.map fun v => v.category).sum + (13 * (names.length + 1) + 43) ≤ R.locals) (hRcells : cells + 1 ≤ R.cells) (hRslots : slots + 6 ≤ R.slots) (hlocks : meth.locks = false)
    (hx : ∀ t : State, s.vm.Alike t.vm → H.size ≤ t.heap.size → (∀ q : Nat, q < H.size → t.heap[q]? = H[q]?) → XC cls s t)
    (hf : ∀ z ∈ locs, free z.base) (hc : cells + 1 ≤ mc) (hs : slots + 6 ≤ ms) :
    W p l e R s m args below meth c H locs cells slots (vx_MQ below Qc XC args s mc ms free) (F0 m pc ls rest) := by
  intro T hT X
  have htr : e.platform.stackTraces = false := (show e.platform.stackTraces = l.stackTraces by rw [X.admits.platform]).trans hl
  have Y := vx_rebase X (R' := { frames := R.frames, locals := R.locals, cells := 1, slots := 6 }) (Nat.le_refl _) (Nat.le_refl _) hRcells hRslots
  obtain ⟨s', hA⟩ : ∃ z, z = (T.setVm s.vm).setFrames (.invoking m args :: below) := ⟨_, rfl⟩
  rw [← hA] at Y
  have hvm : s'.vm = s.vm := by rw [hA]; rfl
  have hhp : s'.heap = H := by rw [hA]; exact hT
  have hW0 : s.WarmedH s'.vm := by rw [hvm]; exact State.WarmedH.refl s
  have hat' : ∀ w ∈ vx_atS own ic cls names, w.before args s' = true := fun w hw => vx_ot_at hW0 hvm.symm (hgood w (List.mem_cons_of_mem _ (List.mem_cons_of_mem _ hw))) (hat w hw)
  have hk' : (Cond.classLink own ik cls).before args s' = true := vx_ot_at hW0 hvm.symm (hgood _ List.mem_cons_self) hk
  have hini' : (Cond.initialized cls).before args s' = true := vx_ot_at hW0 hvm.symm (hgood _ (List.mem_cons_of_mem _ List.mem_cons_self)) hini
  have hU' : vx_Zq Bundle.tN "UNASSIGNED_STACK" Bundle.steD A s' s'.heap := by rw [hhp]; exact vx_Zq.moved hW0.alike (hU.kept hS.2.1)
  have hN' : vx_Zq Bundle.tN "SUPPRESSED_SENTINEL" Bundle.listD A s' s'.heap := by rw [hhp]; exact vx_Zq.moved hW0.alike (hN.kept hS.2.1)
  have h : ∀ w ∈ Bundle.ownAtoms own ic cls names, w.before args s' = true := vx_own hat' (vx_isRefq hU'.1) (vx_isRefq hN'.1) hU'.2.word hN'.2.word
  have hown' : s'.vm.findClass own = some m.cls := by rw [hvm]; exact hown
  have hins : (Cond.instantiable cls 6).before args s' = true := h _ (by simp [Bundle.ownAtoms])
  obtain ⟨vm₁, cX, kX, hfX, hkX, -, -, X₁, st1⟩ := Y.newCold hexec (own := own) (C := cls) (index := ik) (n := 6) hown' hk' hins hini'
    (g := F0 m pc ls rest) rfl (by rw [hb]; exact d0) (Nat.le_refl _) (Nat.le_refl _)
  generalize hT1 : (T.setVm vm₁).pushCell { cls := cX, slots := kX.instanceTypes.map defaultValue, vm := .none } = T1 at X₁ st1
  have hcat : (Value.ref T.heap.size).category = 1 := rfl
  have hcellA : T1.heap[T.heap.size]? = some (freshCell cX kX) := by rw [← hT1]; exact State.heap_pushCell_size _ _
  have d3' : decode c.code (pc + 3) = .ok (.dup, 1) := by rw [hb]; exact d3
  have d4' : decode c.code (pc + 4) = .ok (.ldc_w is, 3) := by rw [hb]; exact d4
  have hstr' : vk_R own is text sa s' := vk_R.warm hW0 hstr
  obtain ⟨U, hsteps, hrun, hend, hW, hsame, ce, hce, hO⟩ := X₁.ctorThrowS hexec htr (own := own) (cls := cls) (names := names) (ic := ic) hown' hcls hnames h (fun x hx => nomatch hx) hfX hkX hcellA (by rw [hhp, hT]; exact Nat.le_refl _) (msg := .ref sa) rfl
    (g := { method := m, pc := pc + 7, locals := ls, stack := .ref sa :: .ref T.heap.size :: .ref T.heap.size :: rest, locked := none }) rfl hsize rfl rfl (rest := rest) rfl
    (by rw [hb]; exact d7) (by rw [hb]; exact d10) hout hRframes (by simp only [List.map_cons, List.sum_cons, hcat]; omega) hlocks
  obtain ⟨f1, f2⟩ := vx_frame hsame
  rw [hhp] at f1 f2
  have hWs : s.WarmedH U.vm := State.WarmedH.trans hW0 hW
  have hcl : s.vm.findClass cls = some ce.cls := by
    have h9 := hO.cls
    rw [hvm] at h9
    exact h9
  have hall : s.sameButNew ({ U with vm := s.vm } : State) locs mc ms := by
    subst hA
    obtain ⟨e1, e2⟩ := hsame
    rw [State.setFrames_setFrames] at e1
    have h2 : (T.setVm s.vm).sameButNew ({ U with vm := s.vm } : State) [] (0 + 1) (0 + 6) := ⟨e1, e2⟩
    have h3 := X.same.trans h2
    rw [List.append_nil] at h3
    exact h3.mono hc hs
  refine ⟨U, ?_, .threw T.heap.size, hrun, hend, Or.inr ⟨T.heap.size, rfl, cls, ce, locs, hx U hWs.alike f1 (fun q hq => f2 q hq (fun z hz => nomatch hz)), hce, hO.vm, hcl, hWs, hall, hf⟩⟩
  refine st1 _ ?_
  show Steps p.tables e below (T1.setTop { method := m, pc := pc + 3, locals := ls, stack := .ref T.heap.size :: rest, locked := none }) _
  jvm_step X₁.here [X₁.here.top, hexec, d3', Value.category]
  exact X₁.ldcStringW hexec (own := own) (text := text) (index := is) (a := sa) hown' hstr'.1 hstr'.2
    (g := { method := m, pc := pc + 4, locals := ls, stack := .ref T.heap.size :: .ref T.heap.size :: rest, locked := none }) rfl d4' _ hsteps
end Ends
section Bodies
variable {l : Launch}
theorem vx_ofW {y : MethodName} {ws ws' : List Cond} {rm : Room} {Pc : Array Value → State → Prop} {Qc : Array Value → State → Outcome → State → Prop} {XC : String → State → State → Prop} {mc ms : Nat} {free : Addr → Prop} {cc : ByteArray} {maxL : Nat} {ret : Option FieldType}
    (hy : plainName y.cls = true) (hw : ws = Cond.code y cc maxL ret :: ws')
    (body : ∀ p e s m args below meth c s₁, BodyLoose p l y (headSpec ws rm) cc maxL ret e s m args below meth c s₁ → c.maxLocals = maxL → (∀ x ∈ c.exceptionTable.toList, False) → Pc args s →
      W p l e (headSpec ws rm).room s m args below meth c s.heap [] 0 0 (vx_MQ below Qc XC args s mc ms free) (entryFrame m args maxL)) : vx_Met l y ws rm Pc Qc XC mc ms free := by
  refine MetFree.of_bodyS (code := cc) (maxLocals := maxL) (ret := ret) hy ?_ ?_
  · intro args s m h hn
    obtain ⟨meth, c, h1, h2, h3, h4, h5, h6, -, -⟩ := Cond.code_spec hn (atoms_spec (ws := ws) h _ (by rw [hw]; exact List.mem_cons_self))
    exact ⟨meth, c, h1, h2, h3, h4, h5, h6⟩
  · intro p e s m args below meth c s₁ B hml hP _
    have hh0 : s₁.heap = s.heap := by rw [B.state]; rfl
    have ht : ∀ x ∈ c.exceptionTable.toList, False := by
      obtain ⟨meth9, c9, h1, h2, -, -, -, -, h7, -⟩ := Cond.code_spec B.named (atoms_spec (ws := ws) B.pre _ (by rw [hw]; exact List.mem_cons_self))
      cases Option.some.inj (h1.symm.trans B.method)
      cases Option.some.inj (h2.symm.trans (Stand.of_body B).code)
      intro x hx
      rw [Array.isEmpty_iff.mp h7] at hx
      cases hx
    obtain ⟨t, a1, o, b1, b2, b3⟩ := body p e s m args below meth c s₁ B hml ht hP s₁ hh0 (Stand.of_body B)
    exact ⟨t, o, a1, b1, b2, b3⟩
/-- the table of a body with handlers -/
theorem vx_table {p : Program} {x y : MethodName} {S : Spec} {cc bytes : ByteArray} {maxL maxL' : Nat} {ret ret' : Option FieldType} {e : Env} {s s₁ : State} {m : MethodId} {args : Array Value} {below : List Frame} {meth : Method} {c : Code} {hh : List (Nat × Nat × Nat × Nat)}
    (B : BodyLoose p l y S cc maxL ret e s m args below meth c s₁) (h : (Cond.codeWith y bytes maxL' ret' hh).before args s = true) : c.exceptionTable.toList = tableOf hh := by
  obtain ⟨m9, meth9, c9, hn9, h1, h2, -, -, h6, -⟩ := Cond.codeWith_spec h
  cases Option.some.inj (hn9.symm.trans B.named)
  cases Option.some.inj (h1.symm.trans B.method)
  cases Option.some.inj (h2.symm.trans (Stand.of_body B).code)
  rw [← h6, table_eq]
end Bodies
end VXA
/-! ===== END ===== -/
/-! ===== BEGIN a static call of a method with an exception table ===== -/
section VXS
variable {p : Program} {l : Launch} {e : Env} {R : Room} {s : State} {m : MethodId} {args : Array Value} {below : List Frame} {meth : Method} {c : Code} {T : State} {H : Heap} {locs : List Loc} {cells slots : Nat}
abbrev vx_CSW (R : Room) (s : State) (args : Array Value) (own : String) (index : Nat) (y : MethodName) (bytes : ByteArray) (maxL : Nat) (ret : Option FieldType) (hh : List (Nat × Nat × Nat × Nat)) (ws : List Cond) (rm : Room) (mc ms n : Nat) : Prop :=
  (rm.cells = mc ∧ rm.slots = ms ∧ rm.frames + 1 ≤ R.frames ∧ 8 + (maxL + 11) + rm.locals ≤ R.locals ∧ (∀ w ∈ ws, ∀ (a' : Array Value) (U : State), s.WarmedH U.vm → w.before a' U = true) ∧ Cond.codeWith y bytes maxL ret hh ∈ ws) ∧
  (Cond.codeWith y bytes maxL ret hh).before args s = true ∧ (Cond.initialized y.cls).before args s = true ∧ (y.cls ≠ "java/lang/invoke/MethodHandle" ∧ y.cls ≠ "java/lang/invoke/VarHandle") ∧
  (∀ sig, parseMethodDescriptor y.desc = some sig → n = sig.parameters.length) ∧ (Cond.methodLink own index y).before args s = true ∧ (Cond.static y).before args s = true
theorem vx_cwSW {own : String} {index maxL mc ms : Nat} {y : MethodName} {bytes : ByteArray} {ret : Option FieldType} {hh : List (Nat × Nat × Nat × Nat)} {Ts ws ws' : List Cond} {rm : Room} (n : Nat) (ht : ∀ w ∈ Ts, w.before args s = true) (hT : GoodIn Ts (va_wsS own index y ws)) (hw : ws = Cond.codeWith y bytes maxL ret hh :: ws') (hrc : rm.cells = mc) (hrs : rm.slots = ms)
    (hd : y.cls ≠ "java/lang/invoke/MethodHandle" ∧ y.cls ≠ "java/lang/invoke/VarHandle" ∧ (parseMethodDescriptor y.desc).map (fun d => d.parameters.length) = some n) (hR : rm.frames + 1 ≤ R.frames ∧ 8 + (maxL + 11) + rm.locals ≤ R.locals) :
    vx_CSW R s args own index y bytes maxL ret hh ws rm mc ms n := by
  have ok : ∀ w ∈ va_wsS own index y ws, w.before args s = true := fun w h => ht w (hT w h).1
  have hG : GoodIn Ts ws := fun w h => hT w (by unfold va_wsS; exact List.mem_append_right _ h)
  have hc : Cond.codeWith y bytes maxL ret hh ∈ ws := by rw [hw]; exact List.mem_cons_self
  refine ⟨⟨hrc, hrs, hR.1, hR.2, pay_in ht hG, hc⟩, ht _ (hG _ hc).1, ok _ (by simp [va_wsS]), ⟨hd.1, hd.2.1⟩, fun sig h => ?_, ok _ (by simp [va_wsS]), ok _ (by simp [va_wsS])⟩
  have h2 := hd.2.2
  rw [h] at h2
  exact (Option.some.inj h2).symm
theorem vx_callSW (X : Stand p l e R s m args below meth c T locs cells slots) (hexec : p.tables.exec = Jvm.exec) {own : String} {index : Nat} {y : MethodName} {bytes : ByteArray} {maxL : Nat} {ret : Option FieldType} {hh : List (Nat × Nat × Nat × Nat)}
    (hown : s.vm.findClass own = some m.cls) (hlink : (Cond.methodLink own index y).before args s = true) (hstat : (Cond.static y).before args s = true) (hinit : (Cond.initialized y.cls).before args s = true)
    (hcode : (Cond.codeWith y bytes maxL ret hh).before args s = true) (hy : y.cls ≠ "java/lang/invoke/MethodHandle" ∧ y.cls ≠ "java/lang/invoke/VarHandle")
    {W9 : Nat} {Pre : Pt → Array Value → Prop} {Post : Pt → Array Value → Option Value → Pt → Prop} (hK : Back l R p e below s args y 3 W9 Pre Post)
    {g : JFrame} (hg : g.method = m) (hsize : g.locals.size = c.maxLocals) {argsL rest : List Value} (hlen : ∀ sig, parseMethodDescriptor y.desc = some sig → argsL.length = sig.parameters.length)
    (hstack : g.stack = argsL.reverse ++ rest) (hW : 2 * g.monitorRoom + (rest.map fun v => v.category).sum ≤ W9) (hdg : decode c.code g.pc = .ok (.invokestatic index, 3))
    (hpre : ∀ vm₁, s.WarmedH vm₁ → Pre ⟨T.setVm vm₁, locs, cells, slots⟩ argsL.toArray) :
    ∃ (v : Option Value) (vm₁ : Vm) (B : Pt), s.WarmedH vm₁ ∧ Stand p l e R s m args below meth c B.U B.locs B.cells B.slots ∧ Post ⟨T.setVm vm₁, locs, cells, slots⟩ argsL.toArray v B ∧
      ∀ target, Steps p.tables e below (B.U.setTop { g with pc := g.pc + 3, stack := v.toList ++ rest }) target → Steps p.tables e below (T.setTop g) target := by
  obtain ⟨mk, methM, cM, hnamed, hmethM, -, -, -, -, -, -, hsigM⟩ := Cond.codeWith_spec hcode
  have hstatic : methM.isStatic = true := Cond.static_spec hnamed hmethM hstat
  obtain ⟨kP, hkP, -⟩ := className_of_methodNamed hnamed
  have hinitP : kP.init = .initialized := Cond.initialized_spec (findClass_of_methodNamed hnamed) hkP hinit
  obtain ⟨vm₁, X₁, hstep₁⟩ := X.invokestatic hexec hown hlink hnamed hmethM hstatic hkP hinitP hy (g := g) hg (argsL := argsL) (rest := rest) (hlen _ hsigM) hstack hdg
  obtain ⟨v, B, X', hpost, hsteps⟩ := hK m meth c ⟨T.setVm vm₁, locs, cells, slots⟩ { g with stack := rest } (.invokestatic index) mk argsL.toArray X₁ hg hsize hdg hW (X₁.named hnamed) (hpre vm₁ X₁.warmed)
  exact ⟨v, vm₁, B, X₁.warmed, X', hpost, fun target h => hstep₁ _ fun acts => by rw [doInvoke_state]; exact hsteps.trans h⟩
theorem vx_runSW {y : MethodName} {bytes cc : ByteArray} {maxL nL mc ms n index : Nat} {ret : Option FieldType} {hh : List (Nat × Nat × Nat × Nat)} {ws : List Cond} {rm : Room} {Pc : Array Value → State → Prop} {Qc : Array Value → State → Outcome → State → Prop} {free : Addr → Prop} {Ts : List Cond} {own : String} {As rest : List Value} {g : JFrame}
    (S : CallFix p m c cc nL s args Ts own) (hM : Met l y ws rm Pc Qc mc ms free) (cw : vx_CSW R s args own index y bytes maxL ret hh ws rm mc ms n) (hp : PreS s H Pc As)
    (hg : g.method = m) (hn : As.length = n) (hsize : g.locals.size = nL) (hstack : g.stack = As.reverse ++ rest) (hW : 2 * g.monitorRoom + (rest.map fun v => v.category).sum ≤ 8) (hdg : decode cc g.pc = .ok (.invokestatic index, 3)) (hf : cells + mc ≤ R.cells ∧ slots + ms ≤ R.slots) :
    va_Run p l e R s m args below meth c H locs cells slots mc ms g rest (Qc As.toArray) (free) := by
  obtain ⟨⟨hrc, hrs, hfr, hlo, hws, hcw⟩, hcode, hini, hy, hlen, hl, hstt⟩ := cw
  have hK : Back l R p e below s args y 3 8 (PreOf R mc ms Pc) (PostOf Qc mc ms free) := va_backW (hh := hh) (bytes := bytes) (maxL := maxL) (ret := ret) hM hp.1 hrc hrs hfr hlo hws hcw (fun a' U hW => word_at hW (Or.inl (by first | rfl | simp [Cond.onTables, Cond.keeps, Cond.steady])) hini)
  obtain ⟨hx, hb, hml, ho, -⟩ := S
  intro T hT X
  obtain ⟨v, vm₁, ⟨U', l2, c2, s2⟩, hW₁, X', ⟨g', mk, t, L, e1, e2, hq, h1, hL, h2, h3⟩, st⟩ := vx_callSW X hx (hh := hh) (bytes := bytes) (maxL := maxL) (ret := ret) ho hl hstt hini hcode hy hK hg (hsize.trans hml.symm) (argsL := As) (rest := rest) (fun sig h => hn.trans (hlen sig h)) hstack hW (by rw [hb]; exact hdg)
    (fun vm₁ hW₁ => ⟨hf.1, hf.2, hp.2 (T.setVm vm₁) hT hW₁⟩)
  dsimp only [Pt.U, Pt.locs, Pt.cells, Pt.slots] at X' e1 e2 h1 h2 h3 st
  subst h1; subst h2; subst h3
  exact ⟨v, (T.setVm vm₁).calling g' mk As.toArray, t, U', L, hT, X', hL, e1, e2, hq, st⟩
/-- a thing of a world lies in the heap -/
theorem vx_lt {D : va_G} {cl : List vw_C} {ws : va_W} {H1 : Heap} (h : va_P D cl ws H1) {k : Nat} {q : Nat × va_E} (hk : ws[k]? = some q) : q.1 < H1.size := (h k q hk).lt
end VXS
/-! ===== END ===== -/
/-! ===== BEGIN methods with a table of their own: called by a name, returning or throwing ===== -/
section VXH
/-! vx_backW, vx_callVX, vx_callSX, vx_callVW, vx_runVW, vx_runVX, vx_runSX, vx_ofWH follow the same proofs as their sisters above (Free/Laws.lean, Shelf42/LK1.lean); vx_outP calls Shelf42/NT130.lean (outThrough). -/
section
variable {l : Launch} {R : Room} {p : Program} {e : Env} {below : List Frame} {s : State} {sargs : Array Value} {y : MethodName} {len W9 : Nat}
theorem vx_backW {ws : List Cond} {rm : Room} {Pc : Array Value → State → Prop} {Qc : Array Value → State → Outcome → State → Prop} {XC : String → State → State → Prop} {mc ms : Nat} {free : Addr → Prop} {bytes : ByteArray} {maxL : Nat} {ret : Option FieldType} {hh : List (Nat × Nat × Nat × Nat)}
    (hM : vx_Met l y ws rm Pc Qc XC mc ms free) (hblind : FrameBlind Pc) (hrc : rm.cells = mc) (hrs : rm.slots = ms)
    (hframes : rm.frames + 1 ≤ R.frames) (hlocals : W9 + (maxL + 11) + rm.locals ≤ R.locals)
    (hws : ∀ w ∈ ws, ∀ a' U, s.WarmedH U.vm → w.before a' U = true) (hcode : Cond.codeWith y bytes maxL ret hh ∈ ws) (hinit : ∀ a' U, s.WarmedH U.vm → (Cond.initialized y.cls).before a' U = true) :
    vx_Back l R p e below s sargs y len W9 (PreOf R mc ms Pc) (PostOf Qc mc ms free) (vx_Post XC mc ms free) := by
  intro m meth c A g ig mk a X hg hsize hdg hW hn hp
  have h1 : (headSpec ws rm).pre.before a A.U = true := atoms_intro fun w hw => hws w hw _ _ X.warmed
  have h2 : (Cond.codeWith y bytes maxL ret hh).before a A.U = true := hws _ hcode _ _ X.warmed
  have h3 : (Cond.initialized y.cls).before a A.U = true := hinit _ _ X.warmed
  have h4 : A.cells + (headSpec ws rm).room.cells ≤ R.cells := by rw [show (headSpec ws rm).room.cells = mc from hrc]; exact hp.1
  have h5 : A.slots + (headSpec ws rm).room.slots ≤ R.slots := by rw [show (headSpec ws rm).room.slots = ms from hrs]; exact hp.2.1
  have hPc : Pc a (A.U.calling g mk a) := hblind _ _ _ _ hp.2.2
  obtain ⟨U, Ls, c0, s0⟩ := A
  dsimp only [Pt.U, Pt.locs, Pt.cells, Pt.slots] at h1 h2 h3 h4 h5 X hn hPc ⊢
  obtain ⟨m9, methY, cY, hn9, hmY, hcY, -, hlY, -⟩ := Cond.codeWith_spec h2
  cases Option.some.inj (hn9.symm.trans hn)
  obtain ⟨kY, hkY, -⟩ := className_of_methodNamed hn
  have hinitY : kY.init = .initialized := Cond.initialized_spec (findClass_of_methodNamed hn) hkY h3
  have h : At U g.method c below := by rw [hg]; exact X.here
  have hlocals9 : W9 + (maxL + 11) + (headSpec ws rm).room.locals ≤ R.locals := hlocals
  have happ : (headSpec ws rm).appliesLoose y e.platform (U.calling g mk a) = true :=
    Spec.appliesLoose_calling (g := g) h hdg hn hkY hinitY
      (X.room_calling (g := g) (R' := (headSpec ws rm).room) hsize hmY hcY hframes (by rw [hlY]; omega) h4 h5) h1
  obtain ⟨mid, hmid⟩ := h.above
  have hfr : (U.setTop g).frames = (.java g :: mid) ++ below := by rw [State.frames_setTop' g h.top, hmid]; rfl
  obtain ⟨o, s₂, hsteps, -, hend, hq⟩ := Steps.callFree hM p X.admits X.cas X.clock (acts := []) hfr happ hPc trivial
  have hq' : vx_Q Qc XC mc ms free a (U.calling g mk a) o s₂ := hq
  rw [State.frames_setTop' g h.top] at hend
  obtain ⟨g₀, hg0⟩ := Option.isSome_iff_exists.mp h.top
  obtain ⟨r, hr⟩ := State.topJava?_eq_some.mp hg0
  have hr' : (({ U with heap := s₂.heap, slotsUsed := s₂.slotsUsed } : State).setVm s₂.vm).frames = .java g₀ :: r := hr
  rcases hq' with ⟨hqc, L, hfe, hL⟩ | ⟨q, rfl, E, ce, L, hx, hce, hcv, hcl, hW₂, hsm, hL⟩
  · obtain ⟨⟨v, rfl⟩, hW₂, e2, q2, q3, q4, q5, q6⟩ := id hfe
    have e3 : s₂ = ({ (U.calling g mk a).setFrames s₂.frames with heap := s₂.heap, slotsUsed := s₂.slotsUsed } : State).setVm s₂.vm := by
      have : s₂ = ({ s₂ with vm := (U.calling g mk a).vm } : State).setVm s₂.vm := rfl
      rw [e2] at this
      exact this
    obtain ⟨c₂, i₂, len₂, hc₂, hd₂, hf₂⟩ := hend
    have hW' : U.WarmedH s₂.vm := hW₂
    have hcc : c₂ = c := by
      have h1 : s₂.code? g.method = U.code? g.method := by
        rw [State.code?_eq, State.code?_eq, hW'.alike.method?]
      exact Option.some.inj (hc₂.symm.trans (h1.trans h.code))
    subst hcc
    have hlen : len₂ = len := by rw [hdg] at hd₂; cases hd₂; rfl
    subst hlen
    have hs₂ : s₂ = (({ U with heap := s₂.heap, slotsUsed := s₂.slotsUsed } : State).setVm s₂.vm).setTop { g with pc := g.pc + len₂, stack := v.toList ++ g.stack } := by
      refine e3.trans ?_
      rw [hf₂, State.calling_eq h.top, State.setFrames_setFrames, State.setTop_of_frames _ hr', hr]
      rfl
    have hsame : U.sameButNew ({ U with heap := s₂.heap, slotsUsed := s₂.slotsUsed } : State) L mc ms := by
      refine ⟨?_, q2, q3, q4, q5, q6⟩
      obtain ⟨t, ht, -⟩ := State.frames_cons hr
      show ({ U with heap := s₂.heap, slotsUsed := s₂.slotsUsed } : State) = { U.setFrames U.frames with heap := s₂.heap, slotsUsed := s₂.slotsUsed }
      rw [State.setFrames_self ht]
    subst hg
    refine Or.inl ⟨v, ⟨(({ U with heap := s₂.heap, slotsUsed := s₂.slotsUsed } : State).setVm s₂.vm), Ls ++ L, c0 + mc, s0 + ms⟩,
      ⟨X.admits, X.cas, X.clock, X.frames, X.room, X.hears, X.method, X.code, (X.here.setHeapUsed s₂.heap s₂.slotsUsed).setVm hW'.alike, X.tail, State.WarmedH.trans X.warmed hW', X.limits, X.bytes, X.same.trans (hsame.setVm s.vm)⟩,
      ⟨g, mk, s₂, L, rfl, rfl, hqc, rfl, hL, rfl, rfl⟩, ?_⟩
    show Steps p.tables e below _ ((({ U with heap := s₂.heap, slotsUsed := s₂.slotsUsed } : State).setVm s₂.vm).setTop { g with pc := g.pc + len₂, stack := v.toList ++ g.stack })
    rw [← hs₂]
    exact hsteps
  · obtain ⟨e2, q2, q3, q4, q5, q6⟩ := id hsm
    have e3 : s₂ = ({ (U.calling g mk a).setFrames s₂.frames with heap := s₂.heap, slotsUsed := s₂.slotsUsed } : State).setVm s₂.vm := by
      have : s₂ = ({ s₂ with vm := (U.calling g mk a).vm } : State).setVm s₂.vm := rfl
      rw [e2] at this
      exact this
    have hf₂ : s₂.frames = .throwing q :: .java g :: U.frames.tail := hend
    have hW' : U.WarmedH s₂.vm := hW₂
    have hs₂ : s₂ = ((({ U with heap := s₂.heap, slotsUsed := s₂.slotsUsed } : State).setVm s₂.vm).setTop g).pushFrame (.throwing q) := by
      refine e3.trans ?_
      rw [hf₂, State.calling_eq h.top, State.setFrames_setFrames, State.pushFrame, State.frames_setTop _ hr', State.setTop_of_frames _ hr', State.setFrames_setFrames, hr]
      rfl
    have hsame : U.sameButNew ({ U with heap := s₂.heap, slotsUsed := s₂.slotsUsed } : State) L mc ms := by
      refine ⟨?_, q2, q3, q4, q5, q6⟩
      obtain ⟨t, ht, -⟩ := State.frames_cons hr
      show ({ U with heap := s₂.heap, slotsUsed := s₂.slotsUsed } : State) = { U.setFrames U.frames with heap := s₂.heap, slotsUsed := s₂.slotsUsed }
      rw [State.setFrames_self ht]
    subst hg
    refine Or.inr ⟨q, ⟨(({ U with heap := s₂.heap, slotsUsed := s₂.slotsUsed } : State).setVm s₂.vm), Ls ++ L, c0 + mc, s0 + ms⟩,
      ⟨X.admits, X.cas, X.clock, X.frames, X.room, X.hears, X.method, X.code, (X.here.setHeapUsed s₂.heap s₂.slotsUsed).setVm hW'.alike, X.tail, State.WarmedH.trans X.warmed hW', X.limits, X.bytes, X.same.trans (hsame.setVm s.vm)⟩,
      ⟨g, mk, s₂, L, E, ce, rfl, rfl, hx, hce, hcv, hcl, rfl, hL, rfl, rfl⟩, ?_⟩
    show Steps p.tables e below _ (((({ U with heap := s₂.heap, slotsUsed := s₂.slotsUsed } : State).setVm s₂.vm).setTop g).pushFrame (.throwing q))
    rw [← hs₂]
    exact hsteps
end
variable {p : Program} {l : Launch} {e : Env} {R : Room} {s : State} {m : MethodId} {args : Array Value} {below : List Frame} {meth : Method} {c : Code} {T : State} {H : Heap} {locs : List Loc} {cells slots : Nat}
theorem vx_callVX (X : Stand p l e R s m args below meth c T locs cells slots) (hexec : p.tables.exec = Jvm.exec) {own C : String} {index : Nat} {y : MethodName} {bytes : ByteArray} {maxL : Nat} {ret : Option FieldType} {hh : List (Nat × Nat × Nat × Nat)}
    (hown : s.vm.findClass own = some m.cls) (hlink : (Cond.methodLink own index y).before args s = true) (hinst : (Cond.instanceMethod y).before args s = true) (hsel : (Cond.selects C y y).before args s = true)
    (hcode : (Cond.codeWith y bytes maxL ret hh).before args s = true) (hy : y.cls ≠ "java/lang/invoke/MethodHandle" ∧ y.cls ≠ "java/lang/invoke/VarHandle")
    {W9 : Nat} {Pre : Pt → Array Value → Prop} {Post : Pt → Array Value → Option Value → Pt → Prop} {PostX : Pt → Array Value → Addr → Pt → Prop} (hK : vx_Back l R p e below s args y 3 W9 Pre Post PostX)
    {b : Addr} {cellB : Cell} (hcell : T.heap[b]? = some cellB) (hobj : cellB.vm.isStatics = false) (hcls : s.vm.findClass C = some cellB.cls)
    {g : JFrame} (hg : g.method = m) (hsize : g.locals.size = c.maxLocals) {argsL rest : List Value} (hlen : ∀ sig, parseMethodDescriptor y.desc = some sig → argsL.length = sig.parameters.length)
    (hstack : g.stack = argsL.reverse ++ .ref b :: rest) (hW : 2 * g.monitorRoom + (rest.map fun v => v.category).sum ≤ W9) (hdg : decode c.code g.pc = .ok (.invokevirtual index, 3))
    (hpre : ∀ vm₁, s.WarmedH vm₁ → Pre ⟨T.setVm vm₁, locs, cells, slots⟩ (Value.ref b :: argsL).toArray) :
    (∃ (v : Option Value) (vm₁ : Vm) (B : Pt), s.WarmedH vm₁ ∧ Stand p l e R s m args below meth c B.U B.locs B.cells B.slots ∧ Post ⟨T.setVm vm₁, locs, cells, slots⟩ (Value.ref b :: argsL).toArray v B ∧
      ∀ target, Steps p.tables e below (B.U.setTop { g with pc := g.pc + 3, stack := v.toList ++ rest }) target → Steps p.tables e below (T.setTop g) target) ∨
    (∃ (q : Addr) (vm₁ : Vm) (B : Pt), s.WarmedH vm₁ ∧ Stand p l e R s m args below meth c B.U B.locs B.cells B.slots ∧ PostX ⟨T.setVm vm₁, locs, cells, slots⟩ (Value.ref b :: argsL).toArray q B ∧
      Steps p.tables e below (T.setTop g) ((B.U.setTop { g with stack := rest }).pushFrame (.throwing q))) := by
  obtain ⟨mk, methM, hnamed, hmethM, hstM, habM⟩ := Cond.instanceMethod_spec hinst
  obtain ⟨m8, methM', cM, hn8, hmethM', -, -, -, -, -, -, hsigM⟩ := Cond.codeWith_spec hcode
  cases Option.some.inj (hn8.symm.trans hnamed)
  cases hmethM.symm.trans hmethM'
  obtain ⟨c2, r2, m2, q1, q2, q3, q4, kP, hkP, hkPi⟩ := Cond.selects_spec hsel
  cases hcls.symm.trans q1
  cases (State.methodFound?_of_named hnamed hy).symm.trans q2
  cases hnamed.symm.trans q3
  have hselP : selectMethod e.platform s.vm cellB.cls mk = .method mk := by rw [Launch.admits_selectMethod X.admits]; exact q4
  obtain ⟨vm₁, X₁, hstep₁⟩ := X.invokevirtual hexec hown hlink hnamed hmethM hstM hkP hkPi hy (a := b) (cell := cellB) hcell
    (fun z h => by rw [h] at hobj; cases hobj) hselP hmethM habM hkP hkPi (g := g) hg (argsL := argsL) (rest := rest) (hlen _ hsigM) hstack hdg
  rcases hK m meth c ⟨T.setVm vm₁, locs, cells, slots⟩ { g with stack := rest } (.invokevirtual index) mk (Value.ref b :: argsL).toArray X₁ hg hsize hdg hW (X₁.named hnamed) (hpre vm₁ X₁.warmed) with ⟨v, B, X', hpost, hsteps⟩ | ⟨q, B, X', hpost, hsteps⟩
  · exact Or.inl ⟨v, vm₁, B, X₁.warmed, X', hpost, fun target h => hstep₁ _ fun acts => by rw [doInvoke_state]; exact hsteps.trans h⟩
  · exact Or.inr ⟨q, vm₁, B, X₁.warmed, X', hpost, hstep₁ _ fun acts => by rw [doInvoke_state]; exact hsteps⟩
theorem vx_callSX (X : Stand p l e R s m args below meth c T locs cells slots) (hexec : p.tables.exec = Jvm.exec) {own : String} {index : Nat} {y : MethodName} {bytes : ByteArray} {maxL : Nat} {ret : Option FieldType} {hh : List (Nat × Nat × Nat × Nat)}
    (hown : s.vm.findClass own = some m.cls) (hlink : (Cond.methodLink own index y).before args s = true) (hstat : (Cond.static y).before args s = true) (hinit : (Cond.initialized y.cls).before args s = true)
    (hcode : (Cond.codeWith y bytes maxL ret hh).before args s = true) (hy : y.cls ≠ "java/lang/invoke/MethodHandle" ∧ y.cls ≠ "java/lang/invoke/VarHandle")
    {W9 : Nat} {Pre : Pt → Array Value → Prop} {Post : Pt → Array Value → Option Value → Pt → Prop} {PostX : Pt → Array Value → Addr → Pt → Prop} (hK : vx_Back l R p e below s args y 3 W9 Pre Post PostX)
    {g : JFrame} (hg : g.method = m) (hsize : g.locals.size = c.maxLocals) {argsL rest : List Value} (hlen : ∀ sig, parseMethodDescriptor y.desc = some sig → argsL.length = sig.parameters.length)
    (hstack : g.stack = argsL.reverse ++ rest) (hW : 2 * g.monitorRoom + (rest.map fun v => v.category).sum ≤ W9) (hdg : decode c.code g.pc = .ok (.invokestatic index, 3))
    (hpre : ∀ vm₁, s.WarmedH vm₁ → Pre ⟨T.setVm vm₁, locs, cells, slots⟩ argsL.toArray) :
    (∃ (v : Option Value) (vm₁ : Vm) (B : Pt), s.WarmedH vm₁ ∧ Stand p l e R s m args below meth c B.U B.locs B.cells B.slots ∧ Post ⟨T.setVm vm₁, locs, cells, slots⟩ argsL.toArray v B ∧
      ∀ target, Steps p.tables e below (B.U.setTop { g with pc := g.pc + 3, stack := v.toList ++ rest }) target → Steps p.tables e below (T.setTop g) target) ∨
    (∃ (q : Addr) (vm₁ : Vm) (B : Pt), s.WarmedH vm₁ ∧ Stand p l e R s m args below meth c B.U B.locs B.cells B.slots ∧ PostX ⟨T.setVm vm₁, locs, cells, slots⟩ argsL.toArray q B ∧
      Steps p.tables e below (T.setTop g) ((B.U.setTop { g with stack := rest }).pushFrame (.throwing q))) := by
  obtain ⟨mk, methM, cM, hnamed, hmethM, -, -, -, -, -, -, hsigM⟩ := Cond.codeWith_spec hcode
  have hstatic : methM.isStatic = true := Cond.static_spec hnamed hmethM hstat
  obtain ⟨kP, hkP, -⟩ := className_of_methodNamed hnamed
  have hinitP : kP.init = .initialized := Cond.initialized_spec (findClass_of_methodNamed hnamed) hkP hinit
  obtain ⟨vm₁, X₁, hstep₁⟩ := X.invokestatic hexec hown hlink hnamed hmethM hstatic hkP hinitP hy (g := g) hg (argsL := argsL) (rest := rest) (hlen _ hsigM) hstack hdg
  rcases hK m meth c ⟨T.setVm vm₁, locs, cells, slots⟩ { g with stack := rest } (.invokestatic index) mk argsL.toArray X₁ hg hsize hdg hW (X₁.named hnamed) (hpre vm₁ X₁.warmed) with ⟨v, B, X', hpost, hsteps⟩ | ⟨q, B, X', hpost, hsteps⟩
  · exact Or.inl ⟨v, vm₁, B, X₁.warmed, X', hpost, fun target h => hstep₁ _ fun acts => by rw [doInvoke_state]; exact hsteps.trans h⟩
  · exact Or.inr ⟨q, vm₁, B, X₁.warmed, X', hpost, hstep₁ _ fun acts => by rw [doInvoke_state]; exact hsteps⟩
theorem vx_callVW (X : Stand p l e R s m args below meth c T locs cells slots) (hexec : p.tables.exec = Jvm.exec) {own C : String} {index : Nat} {y : MethodName} {bytes : ByteArray} {maxL : Nat} {ret : Option FieldType} {hh : List (Nat × Nat × Nat × Nat)}
    (hown : s.vm.findClass own = some m.cls) (hlink : (Cond.methodLink own index y).before args s = true) (hinst : (Cond.instanceMethod y).before args s = true) (hsel : (Cond.selects C y y).before args s = true)
    (hcode : (Cond.codeWith y bytes maxL ret hh).before args s = true) (hy : y.cls ≠ "java/lang/invoke/MethodHandle" ∧ y.cls ≠ "java/lang/invoke/VarHandle")
    {W9 : Nat} {Pre : Pt → Array Value → Prop} {Post : Pt → Array Value → Option Value → Pt → Prop} (hK : Back l R p e below s args y 3 W9 Pre Post)
    {b : Addr} {cellB : Cell} (hcell : T.heap[b]? = some cellB) (hobj : cellB.vm.isStatics = false) (hcls : s.vm.findClass C = some cellB.cls)
    {g : JFrame} (hg : g.method = m) (hsize : g.locals.size = c.maxLocals) {argsL rest : List Value} (hlen : ∀ sig, parseMethodDescriptor y.desc = some sig → argsL.length = sig.parameters.length)
    (hstack : g.stack = argsL.reverse ++ .ref b :: rest) (hW : 2 * g.monitorRoom + (rest.map fun v => v.category).sum ≤ W9) (hdg : decode c.code g.pc = .ok (.invokevirtual index, 3))
    (hpre : ∀ vm₁, s.WarmedH vm₁ → Pre ⟨T.setVm vm₁, locs, cells, slots⟩ (Value.ref b :: argsL).toArray) :
    ∃ (v : Option Value) (vm₁ : Vm) (B : Pt), s.WarmedH vm₁ ∧ Stand p l e R s m args below meth c B.U B.locs B.cells B.slots ∧ Post ⟨T.setVm vm₁, locs, cells, slots⟩ (Value.ref b :: argsL).toArray v B ∧
      ∀ target, Steps p.tables e below (B.U.setTop { g with pc := g.pc + 3, stack := v.toList ++ rest }) target → Steps p.tables e below (T.setTop g) target := by
  obtain ⟨mk, methM, hnamed, hmethM, hstM, habM⟩ := Cond.instanceMethod_spec hinst
  obtain ⟨m8, methM', cM, hn8, hmethM', -, -, -, -, -, -, hsigM⟩ := Cond.codeWith_spec hcode
  cases Option.some.inj (hn8.symm.trans hnamed)
  cases hmethM.symm.trans hmethM'
  obtain ⟨c2, r2, m2, q1, q2, q3, q4, kP, hkP, hkPi⟩ := Cond.selects_spec hsel
  cases hcls.symm.trans q1
  cases (State.methodFound?_of_named hnamed hy).symm.trans q2
  cases hnamed.symm.trans q3
  have hselP : selectMethod e.platform s.vm cellB.cls mk = .method mk := by rw [Launch.admits_selectMethod X.admits]; exact q4
  obtain ⟨vm₁, X₁, hstep₁⟩ := X.invokevirtual hexec hown hlink hnamed hmethM hstM hkP hkPi hy (a := b) (cell := cellB) hcell
    (fun z h => by rw [h] at hobj; cases hobj) hselP hmethM habM hkP hkPi (g := g) hg (argsL := argsL) (rest := rest) (hlen _ hsigM) hstack hdg
  obtain ⟨v, B, X', hpost, hsteps⟩ := hK m meth c ⟨T.setVm vm₁, locs, cells, slots⟩ { g with stack := rest } (.invokevirtual index) mk (Value.ref b :: argsL).toArray X₁ hg hsize hdg hW (X₁.named hnamed) (hpre vm₁ X₁.warmed)
  exact ⟨v, vm₁, B, X₁.warmed, X', hpost, fun target h => hstep₁ _ fun acts => by rw [doInvoke_state]; exact hsteps.trans h⟩
abbrev vx_CVW (R : Room) (s : State) (args : Array Value) (own C : String) (index : Nat) (y : MethodName) (bytes : ByteArray) (maxL : Nat) (ret : Option FieldType) (hh : List (Nat × Nat × Nat × Nat)) (ws : List Cond) (rm : Room) (mc ms n : Nat) : Prop :=
  (rm.cells = mc ∧ rm.slots = ms ∧ rm.frames + 1 ≤ R.frames ∧ 8 + (maxL + 11) + rm.locals ≤ R.locals ∧ (∀ w ∈ ws, ∀ (a' : Array Value) (U : State), s.WarmedH U.vm → w.before a' U = true) ∧ Cond.codeWith y bytes maxL ret hh ∈ ws) ∧
  (Cond.codeWith y bytes maxL ret hh).before args s = true ∧ (Cond.initialized y.cls).before args s = true ∧ (y.cls ≠ "java/lang/invoke/MethodHandle" ∧ y.cls ≠ "java/lang/invoke/VarHandle") ∧
  (∀ sig, parseMethodDescriptor y.desc = some sig → n = sig.parameters.length) ∧ (Cond.methodLink own index y).before args s = true ∧ (Cond.instanceMethod y).before args s = true ∧ (Cond.selects C y y).before args s = true
theorem vx_cwVW {own C : String} {index maxL mc ms : Nat} {y : MethodName} {bytes : ByteArray} {ret : Option FieldType} {hh : List (Nat × Nat × Nat × Nat)} {Ts ws ws' : List Cond} {rm : Room} (n : Nat) (ht : ∀ w ∈ Ts, w.before args s = true) (hT : GoodIn Ts (wsV own index C y ws)) (hw : ws = Cond.codeWith y bytes maxL ret hh :: ws') (hrc : rm.cells = mc) (hrs : rm.slots = ms)
    (hd : y.cls = C ∧ y.cls ≠ "java/lang/invoke/MethodHandle" ∧ y.cls ≠ "java/lang/invoke/VarHandle" ∧ (parseMethodDescriptor y.desc).map (fun d => d.parameters.length) = some n) (hR : rm.frames + 1 ≤ R.frames ∧ 8 + (maxL + 11) + rm.locals ≤ R.locals) :
    vx_CVW R s args own C index y bytes maxL ret hh ws rm mc ms n := by
  obtain ⟨hC, hd⟩ := hd
  subst hC
  have ok : ∀ w ∈ wsV own index y.cls y ws, w.before args s = true := fun w h => ht w (hT w h).1
  have hG : GoodIn Ts ws := fun w h => hT w (by unfold wsV; exact List.mem_append_right _ h)
  have hc : Cond.codeWith y bytes maxL ret hh ∈ ws := by rw [hw]; exact List.mem_cons_self
  refine ⟨⟨hrc, hrs, hR.1, hR.2, pay_in ht hG, hc⟩, ht _ (hG _ hc).1, ok _ (by simp [wsV]), ⟨hd.1, hd.2.1⟩, fun sig h => ?_, ok _ (by simp [wsV]), ok _ (by simp [wsV]), ok _ (by simp [wsV])⟩
  have h2 := hd.2.2
  rw [h] at h2
  exact (Option.some.inj h2).symm
theorem vx_runVW {y : MethodName} {bytes cc : ByteArray} {maxL nL mc ms n index : Nat} {ret : Option FieldType} {hh : List (Nat × Nat × Nat × Nat)} {ws : List Cond} {rm : Room} {Pc : Array Value → State → Prop} {Qc : Array Value → State → Outcome → State → Prop} {free : Addr → Prop} {Ts : List Cond} {own C : String} {b : Addr} {As rest : List Value} {g : JFrame}
    (S : CallFix p m c cc nL s args Ts own) (hM : Met l y ws rm Pc Qc mc ms free) (cw : vx_CVW R s args own C index y bytes maxL ret hh ws rm mc ms n) (hp : PreV s H C b Pc As)
    (hg : g.method = m) (hn : As.length = n) (hsize : g.locals.size = nL) (hstack : g.stack = As.reverse ++ .ref b :: rest) (hW : 2 * g.monitorRoom + (rest.map fun v => v.category).sum ≤ 8) (hdg : decode cc g.pc = .ok (.invokevirtual index, 3)) (hf : cells + mc ≤ R.cells ∧ slots + ms ≤ R.slots) :
    va_Run p l e R s m args below meth c H locs cells slots mc ms g rest (Qc (Value.ref b :: As).toArray) free := by
  obtain ⟨⟨hrc, hrs, hfr, hlo, hws, hcw⟩, hcode, hini, hy, hlen, hl, hin, hse⟩ := cw
  have hK : Back l R p e below s args y 3 8 (PreOf R mc ms Pc) (PostOf Qc mc ms free) := va_backW (hh := hh) (bytes := bytes) (maxL := maxL) (ret := ret) hM hp.1 hrc hrs hfr hlo hws hcw (fun a' U hW => word_at hW (Or.inl (by first | rfl | simp [Cond.onTables, Cond.keeps, Cond.steady])) hini)
  obtain ⟨hx, hb, hml, ho, -⟩ := S
  obtain ⟨-, ⟨cellB, hcB, hoB, hclB⟩, hPc⟩ := hp
  intro T hT X
  obtain ⟨v, vm₁, ⟨U', l2, c2, s2⟩, hW₁, X', ⟨g', mk, t, L, e1, e2, hq, h1, hL, h2, h3⟩, st⟩ := vx_callVW X hx (C := C) (hh := hh) (bytes := bytes) (maxL := maxL) (ret := ret) ho hl hin hse hcode hy hK (by rw [hT]; exact hcB) hoB hclB hg (hsize.trans hml.symm) (argsL := As) (rest := rest) (fun sig h => hn.trans (hlen sig h)) hstack hW (by rw [hb]; exact hdg)
    (fun vm₁ hW₁ => ⟨hf.1, hf.2, hPc (T.setVm vm₁) hT hW₁⟩)
  dsimp only [Pt.U, Pt.locs, Pt.cells, Pt.slots] at X' e1 e2 h1 h2 h3 st
  subst h1; subst h2; subst h3
  exact ⟨v, (T.setVm vm₁).calling g' mk (Value.ref b :: As).toArray, t, U', L, hT, X', hL, e1, e2, hq, st⟩
section
variable {y : MethodName} {bytes cc : ByteArray} {maxL nL mc ms n index : Nat} {ret : Option FieldType} {ws : List Cond} {rm : Room} {Pc : Array Value → State → Prop} {Qc : Array Value → State → Outcome → State → Prop} {XC : String → State → State → Prop} {free : Addr → Prop} {Ts : List Cond} {own C : String} {b : Addr} {As rest : List Value} {g : JFrame}
theorem vx_runVX {hh : List (Nat × Nat × Nat × Nat)} (S : CallFix p m c cc nL s args Ts own) (hM : vx_Met l y ws rm Pc Qc XC mc ms free) (cw : vx_CVW R s args own C index y bytes maxL ret hh ws rm mc ms n) (hp : PreV s H C b Pc As)
    (hg : g.method = m) (hn : As.length = n) (hsize : g.locals.size = nL) (hstack : g.stack = As.reverse ++ .ref b :: rest) (hW : 2 * g.monitorRoom + (rest.map fun v => v.category).sum ≤ 8) (hdg : decode cc g.pc = .ok (.invokevirtual index, 3)) (hf : cells + mc ≤ R.cells ∧ slots + ms ≤ R.slots) :
    vx_Run p l e R s m args below meth c H locs cells slots mc ms g rest (Qc (Value.ref b :: As).toArray) XC free := by
  obtain ⟨⟨hrc, hrs, hfr, hlo, hws, hcw⟩, hcode, hini, hy, hlen, hl, hin, hse⟩ := cw
  have hK : vx_Back l R p e below s args y 3 8 (PreOf R mc ms Pc) (PostOf Qc mc ms free) (vx_Post XC mc ms free) := vx_backW (hh := hh) (bytes := bytes) (maxL := maxL) (ret := ret) hM hp.1 hrc hrs hfr hlo hws hcw (fun a' U hW => word_at hW (Or.inl (by first | rfl | simp [Cond.onTables, Cond.keeps, Cond.steady])) hini)
  obtain ⟨hx, hb, hml, ho, -⟩ := S
  obtain ⟨-, ⟨cellB, hcB, hoB, hclB⟩, hPc⟩ := hp
  intro T hT X
  rcases vx_callVX X hx (C := C) (hh := hh) (bytes := bytes) (maxL := maxL) (ret := ret) ho hl hin hse hcode hy hK (by rw [hT]; exact hcB) hoB hclB hg (hsize.trans hml.symm) (argsL := As) (rest := rest) (fun sig h => hn.trans (hlen sig h)) hstack hW (by rw [hb]; exact hdg)
    (fun vm₁ hW₁ => ⟨hf.1, hf.2, hPc (T.setVm vm₁) hT hW₁⟩) with ⟨v, vm₁, ⟨U', l2, c2, s2⟩, hW₁, X', ⟨g', mk, t, L, e1, e2, hq, h1, hL, h2, h3⟩, st⟩ | ⟨q, vm₁, ⟨U', l2, c2, s2⟩, hW₁, X', ⟨g', mk, t, L, E, ce, e1, e2, hq, hce, hcv, hcl, h1, hL, h2, h3⟩, st⟩
  · dsimp only [Pt.U, Pt.locs, Pt.cells, Pt.slots] at X' e1 e2 h1 h2 h3 st
    subst h1; subst h2; subst h3
    exact Or.inl ⟨v, (T.setVm vm₁).calling g' mk (Value.ref b :: As).toArray, t, U', L, hT, X', hL, e1, e2, hq, st⟩
  · dsimp only [Pt.U, Pt.locs, Pt.cells, Pt.slots] at X' e1 e2 h1 h2 h3 st hcl
    subst h1; subst h2; subst h3
    exact Or.inr ⟨q, (T.setVm vm₁).calling g' mk (Value.ref b :: As).toArray, t, U', L, E, ce, hT, X', hL, e1, e2, hq, hce, hcv, vx_cls hW₁ hcl, st⟩
theorem vx_runSX {hh : List (Nat × Nat × Nat × Nat)} (S : CallFix p m c cc nL s args Ts own) (hM : vx_Met l y ws rm Pc Qc XC mc ms free) (cw : vx_CSW R s args own index y bytes maxL ret hh ws rm mc ms n) (hp : PreS s H Pc As)
    (hg : g.method = m) (hn : As.length = n) (hsize : g.locals.size = nL) (hstack : g.stack = As.reverse ++ rest) (hW : 2 * g.monitorRoom + (rest.map fun v => v.category).sum ≤ 8) (hdg : decode cc g.pc = .ok (.invokestatic index, 3)) (hf : cells + mc ≤ R.cells ∧ slots + ms ≤ R.slots) :
    vx_Run p l e R s m args below meth c H locs cells slots mc ms g rest (Qc As.toArray) XC free := by
  obtain ⟨⟨hrc, hrs, hfr, hlo, hws, hcw⟩, hcode, hini, hy, hlen, hl, hstt⟩ := cw
  have hK : vx_Back l R p e below s args y 3 8 (PreOf R mc ms Pc) (PostOf Qc mc ms free) (vx_Post XC mc ms free) := vx_backW (hh := hh) (bytes := bytes) (maxL := maxL) (ret := ret) hM hp.1 hrc hrs hfr hlo hws hcw (fun a' U hW => word_at hW (Or.inl (by first | rfl | simp [Cond.onTables, Cond.keeps, Cond.steady])) hini)
  obtain ⟨hx, hb, hml, ho, -⟩ := S
  intro T hT X
  rcases vx_callSX X hx (hh := hh) (bytes := bytes) (maxL := maxL) (ret := ret) ho hl hstt hini hcode hy hK hg (hsize.trans hml.symm) (argsL := As) (rest := rest) (fun sig h => hn.trans (hlen sig h)) hstack hW (by rw [hb]; exact hdg)
    (fun vm₁ hW₁ => ⟨hf.1, hf.2, hp.2 (T.setVm vm₁) hT hW₁⟩) with ⟨v, vm₁, ⟨U', l2, c2, s2⟩, hW₁, X', ⟨g', mk, t, L, e1, e2, hq, h1, hL, h2, h3⟩, st⟩ | ⟨q, vm₁, ⟨U', l2, c2, s2⟩, hW₁, X', ⟨g', mk, t, L, E, ce, e1, e2, hq, hce, hcv, hcl, h1, hL, h2, h3⟩, st⟩
  · dsimp only [Pt.U, Pt.locs, Pt.cells, Pt.slots] at X' e1 e2 h1 h2 h3 st
    subst h1; subst h2; subst h3
    exact Or.inl ⟨v, (T.setVm vm₁).calling g' mk As.toArray, t, U', L, hT, X', hL, e1, e2, hq, st⟩
  · dsimp only [Pt.U, Pt.locs, Pt.cells, Pt.slots] at X' e1 e2 h1 h2 h3 st hcl
    subst h1; subst h2; subst h3
    exact Or.inr ⟨q, (T.setVm vm₁).calling g' mk As.toArray, t, U', L, E, ce, hT, X', hL, e1, e2, hq, hce, hcv, vx_cls hW₁ hcl, st⟩
end
end VXH
theorem vx_ofWH {l : Launch} {y : MethodName} {ws ws' : List Cond} {rm : Room} {Pc : Array Value → State → Prop} {Qc : Array Value → State → Outcome → State → Prop} {XC : String → State → State → Prop} {mc ms : Nat} {free : Addr → Prop} {cc : ByteArray} {maxL : Nat} {ret : Option FieldType} {hh : List (Nat × Nat × Nat × Nat)}
    (hy : plainName y.cls = true) (hw : ws = Cond.codeWith y cc maxL ret hh :: ws')
    (body : ∀ p e s m args below meth c s₁, BodyLoose p l y (headSpec ws rm) cc maxL ret e s m args below meth c s₁ → c.maxLocals = maxL → Pc args s →
      W p l e (headSpec ws rm).room s m args below meth c s.heap [] 0 0 (vx_MQ below Qc XC args s mc ms free) (entryFrame m args maxL)) : vx_Met l y ws rm Pc Qc XC mc ms free := by
  refine MetFree.of_bodyS (code := cc) (maxLocals := maxL) (ret := ret) hy ?_ ?_
  · intro args s m h hn
    obtain ⟨m9, meth, c, hn9, h1, h2, h3, h4, -, h5, h6, -⟩ := Cond.codeWith_spec (atoms_spec (ws := ws) h _ (by rw [hw]; exact List.mem_cons_self))
    cases hn.symm.trans hn9
    exact ⟨meth, c, h1, h2, h3, h4, h5, h6⟩
  · intro p e s m args below meth c s₁ B hml hP _
    have hh0 : s₁.heap = s.heap := by rw [B.state]; rfl
    obtain ⟨t, a1, o, b1, b2, b3⟩ := body p e s m args below meth c s₁ B hml hP s₁ hh0 (Stand.of_body B)
    exact ⟨t, o, a1, b1, b2, b3⟩
/-! ===== END ===== -/
end
section
/-! ===== BEGIN printed: names, fields, word lists, decode rows ===== -/
def RX0 : String := "ThreePrimes$Folder"
def TX0 : u_T := fun k => match k with
  | 0 => ("ThreePrimes$Folder", "left", "[J", true)
  | 1 => ("ThreePrimes$Folder", "right", "[J", true)
  | _ => ("ThreePrimes$Folder", "rootPowers", "[J", true)
def tyX0 : Nat → FieldType := fun k => match k with
  | 0 => .array .long
  | 1 => .array .long
  | _ => .array .long
abbrev wsX00 : List Cond := u_ws RX0 TX0 3
theorem nmX0 : ∀ a, a < 3 → ∀ b, b < 3 → a ≠ b → (TX0 a).2.1 ≠ (TX0 b).2.1 := by decide +kernel
theorem tyX0_ok : ∀ k, k < 3 → parseFieldDescriptor (TX0 k).2.2.1 = some (tyX0 k) := by decide +kernel
abbrev cX0_init : ByteArray := prog_2_method_1_code
def yX0_init : MethodName := ⟨RX0, "<init>", "(I)V"⟩
abbrev cX0_foldRows : ByteArray := prog_2_method_2_code
def yX0_foldRows : MethodName := ⟨RX0, "foldRows", "([I[IIILThreePrimes$Sums;)V"⟩
abbrev cX0_loadRemainders : ByteArray := prog_2_method_3_code
def yX0_loadRemainders : MethodName := ⟨RX0, "loadRemainders", "([II[JI)V"⟩
abbrev cX0_takeAwayUpperHalf : ByteArray := prog_2_method_4_code
def yX0_takeAwayUpperHalf : MethodName := ⟨RX0, "takeAwayUpperHalf", "(II)V"⟩
abbrev cX0_storeRemainders : ByteArray := prog_2_method_5_code
def yX0_storeRemainders : MethodName := ⟨RX0, "storeRemainders", "(IILThreePrimes$Sums;)V"⟩
abbrev cX0_foldRoundModulo : ByteArray := prog_2_method_6_code
def yX0_foldRoundModulo : MethodName := ⟨RX0, "foldRoundModulo", "(II)V"⟩
abbrev cX0_listRootPowers : ByteArray := prog_2_method_7_code
def yX0_listRootPowers : MethodName := ⟨RX0, "listRootPowers", "(JII)V"⟩
abbrev cX0_turnIntoValues : ByteArray := prog_2_method_8_code
def yX0_turnIntoValues : MethodName := ⟨RX0, "turnIntoValues", "([JII)V"⟩
abbrev cX0_turnBack : ByteArray := prog_2_method_9_code
def yX0_turnBack : MethodName := ⟨RX0, "turnBack", "([JII)V"⟩
abbrev cX0_splitBlock : ByteArray := prog_2_method_10_code
def yX0_splitBlock : MethodName := ⟨RX0, "splitBlock", "([JIIII)V"⟩
abbrev cX0_joinBlock : ByteArray := prog_2_method_11_code
def yX0_joinBlock : MethodName := ⟨RX0, "joinBlock", "([JIIII)V"⟩
def RX1 : String := "ThreePrimes$Modulo"
def TX1 : u_T := fun k => match k with
  | _ => ("", "", "", false)
def tyX1 : Nat → FieldType := fun k => match k with
  | _ => .int
abbrev wsX10 : List Cond := u_ws RX1 TX1 0
theorem nmX1 : ∀ a, a < 0 → ∀ b, b < 0 → a ≠ b → (TX1 a).2.1 ≠ (TX1 b).2.1 := by decide +kernel
theorem tyX1_ok : ∀ k, k < 0 → parseFieldDescriptor (TX1 k).2.2.1 = some (tyX1 k) := by decide +kernel
abbrev cX1_remainder : ByteArray := prog_3_method_2_code
def yX1_remainder : MethodName := ⟨RX1, "remainder", "(JI)J"⟩
abbrev cX1_raise : ByteArray := prog_3_method_3_code
def yX1_raise : MethodName := ⟨RX1, "raise", "(JII)J"⟩
abbrev cX1_inverse : ByteArray := prog_3_method_4_code
def yX1_inverse : MethodName := ⟨RX1, "inverse", "(JI)J"⟩
abbrev cX1_rootOfOne : ByteArray := prog_3_method_5_code
def yX1_rootOfOne : MethodName := ⟨RX1, "rootOfOne", "(II)J"⟩
def RX2 : String := "ThreePrimes$Sums"
def TX2 : u_T := fun k => match k with
  | _ => ("ThreePrimes$Sums", "remainders", "[[I", true)
def tyX2 : Nat → FieldType := fun k => match k with
  | _ => .array (.array .int)
abbrev wsX20 : List Cond := u_ws RX2 TX2 1
theorem nmX2 : ∀ a, a < 1 → ∀ b, b < 1 → a ≠ b → (TX2 a).2.1 ≠ (TX2 b).2.1 := by decide +kernel
theorem tyX2_ok : ∀ k, k < 1 → parseFieldDescriptor (TX2 k).2.2.1 = some (tyX2 k) := by decide +kernel
abbrev cX2_init : ByteArray := prog_4_method_1_code
def yX2_init : MethodName := ⟨RX2, "<init>", "(I)V"⟩
abbrev cX2_remainder : ByteArray := prog_4_method_2_code
def yX2_remainder : MethodName := ⟨RX2, "remainder", "(II)I"⟩
abbrev cX2_setRemainder : ByteArray := prog_4_method_3_code
def yX2_setRemainder : MethodName := ⟨RX2, "setRemainder", "(IIJ)V"⟩
abbrev cX2_cutInto : ByteArray := prog_4_method_4_code
def yX2_cutInto : MethodName := ⟨RX2, "cutInto", "([II)V"⟩
abbrev cX2_lowest64Bits : ByteArray := prog_4_method_5_code
def yX2_lowest64Bits : MethodName := ⟨RX2, "lowest64Bits", "(I)J"⟩
abbrev cX2_bitsAbove64 : ByteArray := prog_4_method_6_code
def yX2_bitsAbove64 : MethodName := ⟨RX2, "bitsAbove64", "(I)I"⟩
abbrev cX2_moduloFirstTwo : ByteArray := prog_4_method_7_code
def yX2_moduloFirstTwo : MethodName := ⟨RX2, "moduloFirstTwo", "(I)J"⟩
abbrev cX2_timesOfFirstTwo : ByteArray := prog_4_method_8_code
def yX2_timesOfFirstTwo : MethodName := ⟨RX2, "timesOfFirstTwo", "(IJ)J"⟩
def RX3 : String := "ThreePrimes"
def TX3 : u_T := fun k => match k with
  | 0 => ("ThreePrimes", "levels", "I", false)
  | 1 => ("ThreePrimes", "rowA", "[I", false)
  | 2 => ("ThreePrimes", "rowB", "[I", false)
  | 3 => ("ThreePrimes", "results", "I", false)
  | 4 => ("ThreePrimes", "sums", "LThreePrimes$Sums;", true)
  | 5 => ("ThreePrimes", "folder", "LThreePrimes$Folder;", true)
  | 6 => ("ThreePrimes", "powerSums", "LThreePrimes$Sums;", true)
  | _ => ("ThreePrimes", "powerBase", "[I", true)
def tyX3 : Nat → FieldType := fun k => match k with
  | 0 => .int
  | 1 => .array .int
  | 2 => .array .int
  | 3 => .int
  | 4 => .object "ThreePrimes$Sums"
  | 5 => .object "ThreePrimes$Folder"
  | 6 => .object "ThreePrimes$Sums"
  | _ => .array .int
abbrev wsX30 : List Cond := u_ws RX3 TX3 8
theorem nmX3 : ∀ a, a < 8 → ∀ b, b < 8 → a ≠ b → (TX3 a).2.1 ≠ (TX3 b).2.1 := by decide +kernel
theorem tyX3_ok : ∀ k, k < 8 → parseFieldDescriptor (TX3 k).2.2.1 = some (tyX3 k) := by decide +kernel
abbrev cX3_init : ByteArray := prog_1_method_1_code
def yX3_init : MethodName := ⟨RX3, "<init>", "()V"⟩
abbrev cX3_size : ByteArray := prog_1_method_2_code
def yX3_size : MethodName := ⟨RX3, "size", "(I)V"⟩
abbrev cX3_setA : ByteArray := prog_1_method_3_code
def yX3_setA : MethodName := ⟨RX3, "setA", "(II)I"⟩
abbrev cX3_setB : ByteArray := prog_1_method_4_code
def yX3_setB : MethodName := ⟨RX3, "setB", "(II)I"⟩
abbrev cX3_a : ByteArray := prog_1_method_5_code
def yX3_a : MethodName := ⟨RX3, "a", "(I)I"⟩
abbrev cX3_b : ByteArray := prog_1_method_6_code
def yX3_b : MethodName := ⟨RX3, "b", "(I)I"⟩
abbrev cX3_swap : ByteArray := prog_1_method_7_code
def yX3_swap : MethodName := ⟨RX3, "swap", "()V"⟩
abbrev cX3_fold : ByteArray := prog_1_method_8_code
def yX3_fold : MethodName := ⟨RX3, "fold", "(I)I"⟩
abbrev cX3_power : ByteArray := prog_1_method_9_code
def yX3_power : MethodName := ⟨RX3, "power", "(I)I"⟩
abbrev cX3_low : ByteArray := prog_1_method_10_code
def yX3_low : MethodName := ⟨RX3, "low", "(I)J"⟩
abbrev cX3_high : ByteArray := prog_1_method_11_code
def yX3_high : MethodName := ⟨RX3, "high", "(I)I"⟩
abbrev cX3_rest : ByteArray := prog_1_method_12_code
def yX3_rest : MethodName := ⟨RX3, "rest", "(II)I"⟩
abbrev cX3_value : ByteArray := prog_1_method_13_code
def yX3_value : MethodName := ⟨RX3, "value", "(II)I"⟩
abbrev cX3_back : ByteArray := prog_1_method_14_code
def yX3_back : MethodName := ⟨RX3, "back", "(II)I"⟩
abbrev cX3_keep : ByteArray := prog_1_method_15_code
def yX3_keep : MethodName := ⟨RX3, "keep", "()V"⟩
abbrev cX3_product : ByteArray := prog_1_method_16_code
def yX3_product : MethodName := ⟨RX3, "product", "(III)I"⟩
abbrev cX3_root : ByteArray := prog_1_method_17_code
def yX3_root : MethodName := ⟨RX3, "root", "(II)I"⟩
abbrev cX3_places : ByteArray := prog_1_method_18_code
def yX3_places : MethodName := ⟨RX3, "places", "()I"⟩
abbrev cX3_requirePlace : ByteArray := prog_1_method_19_code
def yX3_requirePlace : MethodName := ⟨RX3, "requirePlace", "(I)V"⟩
abbrev cX3_requireResult : ByteArray := prog_1_method_20_code
def yX3_requireResult : MethodName := ⟨RX3, "requireResult", "(I)V"⟩
abbrev cX3_requirePrime : ByteArray := prog_1_method_21_code
def yX3_requirePrime : MethodName := ⟨RX3, "requirePrime", "(I)V"⟩
abbrev cX3_foldRowAWith : ByteArray := prog_1_method_22_code
def yX3_foldRowAWith : MethodName := ⟨RX3, "foldRowAWith", "([I)V"⟩
abbrev cX3_rootToThe : ByteArray := prog_1_method_23_code
def yX3_rootToThe : MethodName := ⟨RX3, "rootToThe", "(II)J"⟩
abbrev cX3_rowAAt : ByteArray := prog_1_method_24_code
def yX3_rowAAt : MethodName := ⟨RX3, "rowAAt", "(JI)J"⟩
def RX4 : String := "ThreePrimesModel"
def TX4 : u_T := fun k => match k with
  | 0 => ("ThreePrimesModel", "thrown", "I", false)
  | 1 => ("ThreePrimesModel", "n", "I", false)
  | 2 => ("ThreePrimesModel", "a", "[I", true)
  | 3 => ("ThreePrimesModel", "b", "[I", true)
  | 4 => ("ThreePrimesModel", "results", "I", false)
  | 5 => ("ThreePrimesModel", "low", "[J", true)
  | 6 => ("ThreePrimesModel", "high", "[J", true)
  | 7 => ("ThreePrimesModel", "kept", "[I", true)
  | 8 => ("ThreePrimesModel", "other", "[I", true)
  | _ => ("ThreePrimesModel", "sums", "[I", true)
def tyX4 : Nat → FieldType := fun k => match k with
  | 0 => .int
  | 1 => .int
  | 2 => .array .int
  | 3 => .array .int
  | 4 => .int
  | 5 => .array .long
  | 6 => .array .long
  | 7 => .array .int
  | 8 => .array .int
  | _ => .array .int
abbrev wsX40 : List Cond := u_ws RX4 TX4 10
theorem nmX4 : ∀ a, a < 10 → ∀ b, b < 10 → a ≠ b → (TX4 a).2.1 ≠ (TX4 b).2.1 := by decide +kernel
theorem tyX4_ok : ∀ k, k < 10 → parseFieldDescriptor (TX4 k).2.2.1 = some (tyX4 k) := by decide +kernel
abbrev cX4_init : ByteArray := prog_6_method_1_code
def yX4_init : MethodName := ⟨RX4, "<init>", "()V"⟩
abbrev cX4_thrown : ByteArray := prog_6_method_2_code
def yX4_thrown : MethodName := ⟨RX4, "thrown", "()I"⟩
abbrev cX4_size : ByteArray := prog_6_method_3_code
def yX4_size : MethodName := ⟨RX4, "size", "(I)V"⟩
abbrev cX4_noPlace : ByteArray := prog_6_method_4_code
def yX4_noPlace : MethodName := ⟨RX4, "noPlace", "(I)Z"⟩
abbrev cX4_setA : ByteArray := prog_6_method_5_code
def yX4_setA : MethodName := ⟨RX4, "setA", "(II)I"⟩
abbrev cX4_setB : ByteArray := prog_6_method_6_code
def yX4_setB : MethodName := ⟨RX4, "setB", "(II)I"⟩
abbrev cX4_a : ByteArray := prog_6_method_7_code
def yX4_a : MethodName := ⟨RX4, "a", "(I)I"⟩
abbrev cX4_b : ByteArray := prog_6_method_8_code
def yX4_b : MethodName := ⟨RX4, "b", "(I)I"⟩
abbrev cX4_swap : ByteArray := prog_6_method_9_code
def yX4_swap : MethodName := ⟨RX4, "swap", "()V"⟩
abbrev cX4_add : ByteArray := prog_6_method_10_code
def yX4_add : MethodName := ⟨RX4, "add", "(IJ)V"⟩
abbrev cX4_fold : ByteArray := prog_6_method_11_code
def yX4_fold : MethodName := ⟨RX4, "fold", "(I)I"⟩
abbrev cX4_foldKept : ByteArray := prog_6_method_12_code
def yX4_foldKept : MethodName := ⟨RX4, "foldKept", "()V"⟩
abbrev cX4_power : ByteArray := prog_6_method_13_code
def yX4_power : MethodName := ⟨RX4, "power", "(I)I"⟩
abbrev cX4_noResult : ByteArray := prog_6_method_14_code
def yX4_noResult : MethodName := ⟨RX4, "noResult", "(I)Z"⟩
abbrev cX4_low : ByteArray := prog_6_method_15_code
def yX4_low : MethodName := ⟨RX4, "low", "(I)J"⟩
abbrev cX4_high : ByteArray := prog_6_method_16_code
def yX4_high : MethodName := ⟨RX4, "high", "(I)I"⟩
abbrev cX4_prime : ByteArray := prog_6_method_17_code
def yX4_prime : MethodName := ⟨RX4, "prime", "(I)J"⟩
abbrev cX4_noPrime : ByteArray := prog_6_method_18_code
def yX4_noPrime : MethodName := ⟨RX4, "noPrime", "(I)Z"⟩
abbrev cX4_restOf : ByteArray := prog_6_method_19_code
def yX4_restOf : MethodName := ⟨RX4, "restOf", "(JJ)J"⟩
abbrev cX4_rest : ByteArray := prog_6_method_20_code
def yX4_rest : MethodName := ⟨RX4, "rest", "(II)I"⟩
abbrev cX4_raised : ByteArray := prog_6_method_21_code
def yX4_raised : MethodName := ⟨RX4, "raised", "(JJJ)J"⟩
abbrev cX4_rootOf : ByteArray := prog_6_method_22_code
def yX4_rootOf : MethodName := ⟨RX4, "rootOf", "(I)J"⟩
abbrev cX4_sumOf : ByteArray := prog_6_method_23_code
def yX4_sumOf : MethodName := ⟨RX4, "sumOf", "(IIZ)J"⟩
abbrev cX4_value : ByteArray := prog_6_method_24_code
def yX4_value : MethodName := ⟨RX4, "value", "(II)I"⟩
abbrev cX4_back : ByteArray := prog_6_method_25_code
def yX4_back : MethodName := ⟨RX4, "back", "(II)I"⟩
abbrev cX4_keep : ByteArray := prog_6_method_26_code
def yX4_keep : MethodName := ⟨RX4, "keep", "()V"⟩
abbrev cX4_product : ByteArray := prog_6_method_27_code
def yX4_product : MethodName := ⟨RX4, "product", "(III)I"⟩
abbrev cX4_root : ByteArray := prog_6_method_28_code
def yX4_root : MethodName := ⟨RX4, "root", "(II)I"⟩
def RJ0 : String := "java/lang/String"
def TJ0 : u_T := fun k => match k with
  | _ => ("", "", "", false)
def tyJ0 : Nat → FieldType := fun k => match k with
  | _ => .int
abbrev wsJ00 : List Cond := u_ws RJ0 TJ0 0
theorem nmJ0 : ∀ a, a < 0 → ∀ b, b < 0 → a ≠ b → (TJ0 a).2.1 ≠ (TJ0 b).2.1 := by decide +kernel
theorem tyJ0_ok : ∀ k, k < 0 → parseFieldDescriptor (TJ0 k).2.2.1 = some (tyJ0 k) := by decide +kernel
def RJ10 : String := "java/lang/System"
def TJ10 : u_T := fun k => match k with
  | _ => ("", "", "", false)
def tyJ10 : Nat → FieldType := fun k => match k with
  | _ => .int
abbrev wsJ100 : List Cond := u_ws RJ10 TJ10 0
theorem nmJ10 : ∀ a, a < 0 → ∀ b, b < 0 → a ≠ b → (TJ10 a).2.1 ≠ (TJ10 b).2.1 := by decide +kernel
theorem tyJ10_ok : ∀ k, k < 0 → parseFieldDescriptor (TJ10 k).2.2.1 = some (tyJ10 k) := by decide +kernel
def RL : String := "ThreePrimesLaw"
abbrev cL_size : ByteArray := method_3_code
def yL_size : MethodName := ⟨RL, "size", "(LThreePrimes;I)I"⟩
abbrev cL_setA : ByteArray := method_4_code
def yL_setA : MethodName := ⟨RL, "setA", "(LThreePrimes;II[J)I"⟩
abbrev cL_setB : ByteArray := method_5_code
def yL_setB : MethodName := ⟨RL, "setB", "(LThreePrimes;II[J)I"⟩
abbrev cL_a : ByteArray := method_6_code
def yL_a : MethodName := ⟨RL, "a", "(LThreePrimes;I[J)I"⟩
abbrev cL_b : ByteArray := method_7_code
def yL_b : MethodName := ⟨RL, "b", "(LThreePrimes;I[J)I"⟩
abbrev cL_fold : ByteArray := method_8_code
def yL_fold : MethodName := ⟨RL, "fold", "(LThreePrimes;I[J)I"⟩
abbrev cL_power : ByteArray := method_9_code
def yL_power : MethodName := ⟨RL, "power", "(LThreePrimes;I[J)I"⟩
abbrev cL_low : ByteArray := method_10_code
def yL_low : MethodName := ⟨RL, "low", "(LThreePrimes;I[J)I"⟩
abbrev cL_high : ByteArray := method_11_code
def yL_high : MethodName := ⟨RL, "high", "(LThreePrimes;I[J)I"⟩
abbrev cL_rest : ByteArray := method_12_code
def yL_rest : MethodName := ⟨RL, "rest", "(LThreePrimes;II[J)I"⟩
abbrev cL_value : ByteArray := method_13_code
def yL_value : MethodName := ⟨RL, "value", "(LThreePrimes;II[J)I"⟩
abbrev cL_back : ByteArray := method_14_code
def yL_back : MethodName := ⟨RL, "back", "(LThreePrimes;II[J)I"⟩
abbrev cL_keep : ByteArray := method_15_code
def yL_keep : MethodName := ⟨RL, "keep", "(LThreePrimes;)I"⟩
abbrev cL_product : ByteArray := method_16_code
def yL_product : MethodName := ⟨RL, "product", "(LThreePrimes;III[J)I"⟩
abbrev cL_root : ByteArray := method_17_code
def yL_root : MethodName := ⟨RL, "root", "(LThreePrimes;II[J)I"⟩
abbrev cL_law : ByteArray := code
def yL_law : MethodName := ⟨RL, "law", "([I)Z"⟩
def wsX0_init : List Cond := .code yX0_init cX0_init 2 none :: ([.methodLink RX0 3 objectInit, .instanceMethod objectInit, .code objectInit ⟨#[0xb1]⟩ 1 none, .arrayClass .long, .fieldLink RX0 9 "ThreePrimes$Folder" "left" "[J", .fieldLink RX0 15 "ThreePrimes$Folder" "right" "[J", .fieldLink RX0 18 "ThreePrimes$Folder" "rootPowers" "[J"] ++ wsX00)
def wsX1_remainder : List Cond := .code yX1_remainder cX1_remainder 5 (some .long) :: ([])
def wsX0_loadRemainders : List Cond := .code yX0_loadRemainders cX0_loadRemainders 6 none :: ([.methodLink RX0 40 yX1_remainder, .static yX1_remainder, .initialized RX1, .code yX1_remainder cX1_remainder 5 (some .long)])
def wsX1_raise : List Cond := .code yX1_raise cX1_raise 9 (some .long) :: ([])
def wsX1_rootOfOne : List Cond := .code yX1_rootOfOne cX1_rootOfOne 2 (some .long) :: ([.constantLong RX1 13 (3), .methodLink RX1 7 yX1_raise, .static yX1_raise, .initialized RX1, .code yX1_raise cX1_raise 9 (some .long)])
def wsX0_listRootPowers : List Cond := .code yX0_listRootPowers cX0_listRootPowers 6 none :: ([.fieldLink RX0 18 "ThreePrimes$Folder" "rootPowers" "[J"] ++ wsX00)
def wsX0_splitBlock : List Cond := .code yX0_splitBlock cX0_splitBlock 13 none :: ([.fieldLink RX0 18 "ThreePrimes$Folder" "rootPowers" "[J"] ++ wsX00)
def wsX0_turnIntoValues : List Cond := .code yX0_turnIntoValues cX0_turnIntoValues 8 none :: ([.methodLink RX0 70 yX0_splitBlock, .instanceMethod yX0_splitBlock, .selects RX0 yX0_splitBlock yX0_splitBlock, .initialized RX0, .code yX0_splitBlock cX0_splitBlock 13 none, .fieldLink RX0 18 "ThreePrimes$Folder" "rootPowers" "[J"] ++ wsX00)
def wsX1_inverse : List Cond := .code yX1_inverse cX1_inverse 3 (some .long) :: ([.methodLink RX1 7 yX1_raise, .static yX1_raise, .initialized RX1, .code yX1_raise cX1_raise 9 (some .long)])
def wsX0_joinBlock : List Cond := .code yX0_joinBlock cX0_joinBlock 15 none :: ([.fieldLink RX0 18 "ThreePrimes$Folder" "rootPowers" "[J"] ++ wsX00)
def wsX0_turnBack : List Cond := .code yX0_turnBack cX0_turnBack 8 none :: ([.methodLink RX0 74 yX0_joinBlock, .instanceMethod yX0_joinBlock, .selects RX0 yX0_joinBlock yX0_joinBlock, .initialized RX0, .code yX0_joinBlock cX0_joinBlock 15 none, .fieldLink RX0 18 "ThreePrimes$Folder" "rootPowers" "[J", .methodLink RX0 64 yX1_inverse, .static yX1_inverse, .initialized RX1, .code yX1_inverse cX1_inverse 3 (some .long), .methodLink RX1 7 yX1_raise, .static yX1_raise, .code yX1_raise cX1_raise 9 (some .long)] ++ wsX00)
def wsX0_foldRoundModulo_r1 : List Cond := [Cond.fieldLink RX0 9 "ThreePrimes$Folder" "left" "[J", Cond.fieldLink RX0 15 "ThreePrimes$Folder" "right" "[J", Cond.methodLink RX0 52 yX1_rootOfOne, Cond.static yX1_rootOfOne, Cond.initialized RX1, Cond.code yX1_rootOfOne cX1_rootOfOne 2 (some .long), Cond.constantLong RX1 13 (3), Cond.methodLink RX1 7 yX1_raise, Cond.static yX1_raise, Cond.code yX1_raise cX1_raise 9 (some .long), Cond.methodLink RX0 56 yX0_listRootPowers, Cond.instanceMethod yX0_listRootPowers, Cond.selects RX0 yX0_listRootPowers yX0_listRootPowers, Cond.initialized RX0, Cond.code yX0_listRootPowers cX0_listRootPowers 6 none, Cond.fieldLink RX0 18 "ThreePrimes$Folder" "rootPowers" "[J", Cond.methodLink RX0 60 yX0_turnIntoValues, Cond.instanceMethod yX0_turnIntoValues, Cond.selects RX0 yX0_turnIntoValues yX0_turnIntoValues, Cond.code yX0_turnIntoValues cX0_turnIntoValues 8 none, Cond.methodLink RX0 70 yX0_splitBlock, Cond.instanceMethod yX0_splitBlock, Cond.selects RX0 yX0_splitBlock yX0_splitBlock, Cond.code yX0_splitBlock cX0_splitBlock 13 none]
def wsX0_foldRoundModulo_r2 : List Cond := [Cond.methodLink RX0 64 yX1_inverse, Cond.static yX1_inverse, Cond.code yX1_inverse cX1_inverse 3 (some .long), Cond.methodLink RX0 67 yX0_turnBack, Cond.instanceMethod yX0_turnBack, Cond.selects RX0 yX0_turnBack yX0_turnBack, Cond.code yX0_turnBack cX0_turnBack 8 none, Cond.methodLink RX0 74 yX0_joinBlock, Cond.instanceMethod yX0_joinBlock, Cond.selects RX0 yX0_joinBlock yX0_joinBlock, Cond.code yX0_joinBlock cX0_joinBlock 15 none]
def wsX0_foldRoundModulo : List Cond := .code yX0_foldRoundModulo cX0_foldRoundModulo 7 none :: ((wsX0_foldRoundModulo_r1 ++ wsX0_foldRoundModulo_r2) ++ wsX00)
def wsX0_takeAwayUpperHalf : List Cond := .code yX0_takeAwayUpperHalf cX0_takeAwayUpperHalf 4 none :: ([.fieldLink RX0 9 "ThreePrimes$Folder" "left" "[J", .methodLink RX0 40 yX1_remainder, .static yX1_remainder, .initialized RX1, .code yX1_remainder cX1_remainder 5 (some .long)] ++ wsX00)
def wsX2_setRemainder : List Cond := .code yX2_setRemainder cX2_setRemainder 5 none :: ([.fieldLink RX2 15 "ThreePrimes$Sums" "remainders" "[[I"] ++ wsX20)
def wsX0_storeRemainders : List Cond := .code yX0_storeRemainders cX0_storeRemainders 5 none :: ([.fieldLink RX0 9 "ThreePrimes$Folder" "left" "[J", .methodLink RX0 46 yX2_setRemainder, .instanceMethod yX2_setRemainder, .selects RX2 yX2_setRemainder yX2_setRemainder, .initialized RX2, .code yX2_setRemainder cX2_setRemainder 5 none, .fieldLink RX2 15 "ThreePrimes$Sums" "remainders" "[[I"] ++ wsX00 ++ wsX20)
def wsX0_foldRows_r1 : List Cond := [Cond.fieldLink RX0 9 "ThreePrimes$Folder" "left" "[J", Cond.fieldLink RX0 15 "ThreePrimes$Folder" "right" "[J", Cond.methodLink RX0 25 yX0_loadRemainders, Cond.instanceMethod yX0_loadRemainders, Cond.selects RX0 yX0_loadRemainders yX0_loadRemainders, Cond.initialized RX0, Cond.code yX0_loadRemainders cX0_loadRemainders 6 none, Cond.methodLink RX0 40 yX1_remainder, Cond.static yX1_remainder, Cond.initialized RX1, Cond.code yX1_remainder cX1_remainder 5 (some .long), Cond.methodLink RX0 29 yX0_foldRoundModulo, Cond.instanceMethod yX0_foldRoundModulo, Cond.selects RX0 yX0_foldRoundModulo yX0_foldRoundModulo, Cond.code yX0_foldRoundModulo cX0_foldRoundModulo 7 none, Cond.methodLink RX0 52 yX1_rootOfOne, Cond.static yX1_rootOfOne, Cond.code yX1_rootOfOne cX1_rootOfOne 2 (some .long), Cond.constantLong RX1 13 (3), Cond.methodLink RX1 7 yX1_raise, Cond.static yX1_raise, Cond.code yX1_raise cX1_raise 9 (some .long), Cond.methodLink RX0 56 yX0_listRootPowers, Cond.instanceMethod yX0_listRootPowers]
def wsX0_foldRows_r2 : List Cond := [Cond.selects RX0 yX0_listRootPowers yX0_listRootPowers, Cond.code yX0_listRootPowers cX0_listRootPowers 6 none, Cond.fieldLink RX0 18 "ThreePrimes$Folder" "rootPowers" "[J", Cond.methodLink RX0 60 yX0_turnIntoValues, Cond.instanceMethod yX0_turnIntoValues, Cond.selects RX0 yX0_turnIntoValues yX0_turnIntoValues, Cond.code yX0_turnIntoValues cX0_turnIntoValues 8 none, Cond.methodLink RX0 70 yX0_splitBlock, Cond.instanceMethod yX0_splitBlock, Cond.selects RX0 yX0_splitBlock yX0_splitBlock, Cond.code yX0_splitBlock cX0_splitBlock 13 none, Cond.methodLink RX0 64 yX1_inverse, Cond.static yX1_inverse, Cond.code yX1_inverse cX1_inverse 3 (some .long), Cond.methodLink RX0 67 yX0_turnBack, Cond.instanceMethod yX0_turnBack, Cond.selects RX0 yX0_turnBack yX0_turnBack, Cond.code yX0_turnBack cX0_turnBack 8 none, Cond.methodLink RX0 74 yX0_joinBlock, Cond.instanceMethod yX0_joinBlock, Cond.selects RX0 yX0_joinBlock yX0_joinBlock, Cond.code yX0_joinBlock cX0_joinBlock 15 none, Cond.methodLink RX0 33 yX0_takeAwayUpperHalf, Cond.instanceMethod yX0_takeAwayUpperHalf]
def wsX0_foldRows_r3 : List Cond := [Cond.selects RX0 yX0_takeAwayUpperHalf yX0_takeAwayUpperHalf, Cond.code yX0_takeAwayUpperHalf cX0_takeAwayUpperHalf 4 none, Cond.methodLink RX0 36 yX0_storeRemainders, Cond.instanceMethod yX0_storeRemainders, Cond.selects RX0 yX0_storeRemainders yX0_storeRemainders, Cond.code yX0_storeRemainders cX0_storeRemainders 5 none, Cond.methodLink RX0 46 yX2_setRemainder, Cond.instanceMethod yX2_setRemainder, Cond.selects RX2 yX2_setRemainder yX2_setRemainder, Cond.initialized RX2, Cond.code yX2_setRemainder cX2_setRemainder 5 none, Cond.fieldLink RX2 15 "ThreePrimes$Sums" "remainders" "[[I"]
def wsX0_foldRows : List Cond := .code yX0_foldRows cX0_foldRows 10 none :: ((wsX0_foldRows_r1 ++ (wsX0_foldRows_r2 ++ wsX0_foldRows_r3)) ++ wsX00 ++ wsX20)
def wsX2_init : List Cond := .code yX2_init cX2_init 2 none :: ([.methodLink RX2 3 objectInit, .instanceMethod objectInit, .code objectInit ⟨#[0xb1]⟩ 1 none, .classLink RX2 13 "[[I", .arrayClass .int, .fieldLink RX2 15 "ThreePrimes$Sums" "remainders" "[[I"] ++ wsX20)
def wsX2_remainder : List Cond := .code yX2_remainder cX2_remainder 3 (some .int) :: ([.fieldLink RX2 15 "ThreePrimes$Sums" "remainders" "[[I"] ++ wsX20)
def wsX2_moduloFirstTwo : List Cond := .code yX2_moduloFirstTwo cX2_moduloFirstTwo 6 (some .long) :: ([.fieldLink RX2 15 "ThreePrimes$Sums" "remainders" "[[I", .constantLong RX2 37 (998244353), .constantLong RX2 39 (47450712), .constant RX2 41 (167772161), .methodLink RX2 42 yX1_remainder, .static yX1_remainder, .initialized RX1, .code yX1_remainder cX1_remainder 5 (some .long)] ++ wsX20)
def wsX2_timesOfFirstTwo : List Cond := .code yX2_timesOfFirstTwo cX2_timesOfFirstTwo 8 (some .long) :: ([.fieldLink RX2 15 "ThreePrimes$Sums" "remainders" "[[I", .constantLong RX2 48 (469762049), .constantLong RX2 50 (115990628), .constant RX2 52 (469762049), .constantLong RX2 53 (234881024), .methodLink RX2 42 yX1_remainder, .static yX1_remainder, .initialized RX1, .code yX1_remainder cX1_remainder 5 (some .long)] ++ wsX20)
def wsX2_lowest64Bits : List Cond := .code yX2_lowest64Bits cX2_lowest64Bits 4 (some .long) :: ([.constantLong RX2 27 (167477612308856833), .methodLink RX2 24 yX2_moduloFirstTwo, .instanceMethod yX2_moduloFirstTwo, .selects RX2 yX2_moduloFirstTwo yX2_moduloFirstTwo, .initialized RX2, .code yX2_moduloFirstTwo cX2_moduloFirstTwo 6 (some .long), .fieldLink RX2 15 "ThreePrimes$Sums" "remainders" "[[I", .constantLong RX2 37 (998244353), .constantLong RX2 39 (47450712), .constant RX2 41 (167772161), .methodLink RX2 42 yX1_remainder, .static yX1_remainder, .initialized RX1, .code yX1_remainder cX1_remainder 5 (some .long), .methodLink RX2 29 yX2_timesOfFirstTwo, .instanceMethod yX2_timesOfFirstTwo, .selects RX2 yX2_timesOfFirstTwo yX2_timesOfFirstTwo, .code yX2_timesOfFirstTwo cX2_timesOfFirstTwo 8 (some .long), .constantLong RX2 48 (469762049), .constantLong RX2 50 (115990628), .constant RX2 52 (469762049), .constantLong RX2 53 (234881024)] ++ wsX20)
def wsX2_cutInto_r1 : List Cond := [Cond.methodLink RX2 20 yX2_lowest64Bits, Cond.instanceMethod yX2_lowest64Bits, Cond.selects RX2 yX2_lowest64Bits yX2_lowest64Bits, Cond.initialized RX2, Cond.code yX2_lowest64Bits cX2_lowest64Bits 4 (some .long), Cond.constantLong RX2 27 (167477612308856833), Cond.methodLink RX2 24 yX2_moduloFirstTwo, Cond.instanceMethod yX2_moduloFirstTwo, Cond.selects RX2 yX2_moduloFirstTwo yX2_moduloFirstTwo, Cond.code yX2_moduloFirstTwo cX2_moduloFirstTwo 6 (some .long), Cond.fieldLink RX2 15 "ThreePrimes$Sums" "remainders" "[[I", Cond.constantLong RX2 37 (998244353), Cond.constantLong RX2 39 (47450712), Cond.constant RX2 41 (167772161), Cond.methodLink RX2 42 yX1_remainder, Cond.static yX1_remainder, Cond.initialized RX1, Cond.code yX1_remainder cX1_remainder 5 (some .long), Cond.methodLink RX2 29 yX2_timesOfFirstTwo, Cond.instanceMethod yX2_timesOfFirstTwo, Cond.selects RX2 yX2_timesOfFirstTwo yX2_timesOfFirstTwo, Cond.code yX2_timesOfFirstTwo cX2_timesOfFirstTwo 8 (some .long), Cond.constantLong RX2 48 (469762049), Cond.constantLong RX2 50 (115990628)]
def wsX2_cutInto_r2 : List Cond := [Cond.constant RX2 52 (469762049), Cond.constantLong RX2 53 (234881024)]
def wsX2_cutInto : List Cond := .code yX2_cutInto cX2_cutInto 4 none :: ((wsX2_cutInto_r1 ++ wsX2_cutInto_r2) ++ wsX20)
def wsX2_bitsAbove64 : List Cond := .code yX2_bitsAbove64 cX2_bitsAbove64 10 (some .int) :: ([.constantLong RX2 33 (1166016513), .constantLong RX2 35 (38993920), .methodLink RX2 24 yX2_moduloFirstTwo, .instanceMethod yX2_moduloFirstTwo, .selects RX2 yX2_moduloFirstTwo yX2_moduloFirstTwo, .initialized RX2, .code yX2_moduloFirstTwo cX2_moduloFirstTwo 6 (some .long), .fieldLink RX2 15 "ThreePrimes$Sums" "remainders" "[[I", .constantLong RX2 37 (998244353), .constantLong RX2 39 (47450712), .constant RX2 41 (167772161), .methodLink RX2 42 yX1_remainder, .static yX1_remainder, .initialized RX1, .code yX1_remainder cX1_remainder 5 (some .long), .methodLink RX2 29 yX2_timesOfFirstTwo, .instanceMethod yX2_timesOfFirstTwo, .selects RX2 yX2_timesOfFirstTwo yX2_timesOfFirstTwo, .code yX2_timesOfFirstTwo cX2_timesOfFirstTwo 8 (some .long), .constantLong RX2 48 (469762049), .constantLong RX2 50 (115990628), .constant RX2 52 (469762049), .constantLong RX2 53 (234881024)] ++ wsX20)
def wsX3_init_r1 : List Cond := [Cond.methodLink RX3 3 objectInit, Cond.instanceMethod objectInit, Cond.code objectInit ⟨#[0xb1]⟩ 1 none, Cond.fieldLink RX3 9 "ThreePrimes" "levels" "I", Cond.arrayClass .int, Cond.fieldLink RX3 13 "ThreePrimes" "rowA" "[I", Cond.fieldLink RX3 17 "ThreePrimes" "rowB" "[I", Cond.fieldLink RX3 20 "ThreePrimes" "results" "I", Cond.classLink RX3 23 RX2, Cond.instantiable RX2 1, Cond.initialized RX2, Cond.fieldLink RX3 28 "ThreePrimes" "sums" "LThreePrimes$Sums;", Cond.classLink RX3 32 RX0, Cond.instantiable RX0 3, Cond.initialized RX0, Cond.fieldLink RX3 35 "ThreePrimes" "folder" "LThreePrimes$Folder;", Cond.fieldLink RX3 39 "ThreePrimes" "powerSums" "LThreePrimes$Sums;", Cond.fieldLink RX3 42 "ThreePrimes" "powerBase" "[I", Cond.methodLink RX3 25 yX2_init, Cond.instanceMethod yX2_init, Cond.code yX2_init cX2_init 2 none, Cond.methodLink RX2 3 objectInit, Cond.classLink RX2 13 "[[I", Cond.fieldLink RX2 15 "ThreePrimes$Sums" "remainders" "[[I"]
def wsX3_init_r2 : List Cond := [Cond.methodLink RX3 34 yX0_init, Cond.instanceMethod yX0_init, Cond.code yX0_init cX0_init 2 none, Cond.methodLink RX0 3 objectInit, Cond.arrayClass .long, Cond.fieldLink RX0 9 "ThreePrimes$Folder" "left" "[J", Cond.fieldLink RX0 15 "ThreePrimes$Folder" "right" "[J", Cond.fieldLink RX0 18 "ThreePrimes$Folder" "rootPowers" "[J"]
def wsX3_init : List Cond := .code yX3_init cX3_init 1 none :: ((wsX3_init_r1 ++ wsX3_init_r2) ++ wsX30 ++ wsX20 ++ wsX00)
def wsX3_places : List Cond := .code yX3_places cX3_places 1 (some .int) :: ([.fieldLink RX3 9 "ThreePrimes" "levels" "I"] ++ wsX30)
def wsX3_size : List Cond := .code yX3_size cX3_size 3 none :: ([.classLink RX3 45 "java/lang/IllegalArgumentException", .initialized "java/lang/IllegalArgumentException", .fieldLink RX3 9 "ThreePrimes" "levels" "I", .fieldLink RX3 20 "ThreePrimes" "results" "I", .fieldLink RX3 13 "ThreePrimes" "rowA" "[I", .fieldLink RX3 17 "ThreePrimes" "rowB" "[I", .methodLink RX3 52 yX3_places, .instanceMethod yX3_places, .selects RX3 yX3_places yX3_places, .initialized RX3, .code yX3_places cX3_places 1 (some .int)] ++ wsX30 ++ (vx_atS RX3 49 "java/lang/IllegalArgumentException" ["java/lang/RuntimeException", "java/lang/Exception"]).filter goodWord)
def wsX3_requirePlace : List Cond := .code yX3_requirePlace cX3_requirePlace 2 none :: ([.classLink RX3 122 "java/lang/IndexOutOfBoundsException", .initialized "java/lang/IndexOutOfBoundsException", .methodLink RX3 52 yX3_places, .instanceMethod yX3_places, .selects RX3 yX3_places yX3_places, .initialized RX3, .code yX3_places cX3_places 1 (some .int), .fieldLink RX3 9 "ThreePrimes" "levels" "I"] ++ wsX30 ++ (vx_atS RX3 126 "java/lang/IndexOutOfBoundsException" ["java/lang/RuntimeException", "java/lang/Exception"]).filter goodWord)
def wsX3_setA : List Cond := .code yX3_setA cX3_setA 4 (some .int) :: ([.fieldLink RX3 13 "ThreePrimes" "rowA" "[I", .methodLink RX3 56 yX3_requirePlace, .instanceMethod yX3_requirePlace, .selects RX3 yX3_requirePlace yX3_requirePlace, .initialized RX3, .code yX3_requirePlace cX3_requirePlace 2 none, .classLink RX3 122 "java/lang/IndexOutOfBoundsException", .initialized "java/lang/IndexOutOfBoundsException", .methodLink RX3 52 yX3_places, .instanceMethod yX3_places, .selects RX3 yX3_places yX3_places, .code yX3_places cX3_places 1 (some .int), .fieldLink RX3 9 "ThreePrimes" "levels" "I"] ++ wsX30 ++ (vx_atS RX3 126 "java/lang/IndexOutOfBoundsException" ["java/lang/RuntimeException", "java/lang/Exception"]).filter goodWord)
def wsX3_setB : List Cond := .code yX3_setB cX3_setB 4 (some .int) :: ([.fieldLink RX3 17 "ThreePrimes" "rowB" "[I", .methodLink RX3 56 yX3_requirePlace, .instanceMethod yX3_requirePlace, .selects RX3 yX3_requirePlace yX3_requirePlace, .initialized RX3, .code yX3_requirePlace cX3_requirePlace 2 none, .classLink RX3 122 "java/lang/IndexOutOfBoundsException", .initialized "java/lang/IndexOutOfBoundsException", .methodLink RX3 52 yX3_places, .instanceMethod yX3_places, .selects RX3 yX3_places yX3_places, .code yX3_places cX3_places 1 (some .int), .fieldLink RX3 9 "ThreePrimes" "levels" "I"] ++ wsX30 ++ (vx_atS RX3 126 "java/lang/IndexOutOfBoundsException" ["java/lang/RuntimeException", "java/lang/Exception"]).filter goodWord)
def wsX3_a : List Cond := .code yX3_a cX3_a 2 (some .int) :: ([.fieldLink RX3 13 "ThreePrimes" "rowA" "[I", .methodLink RX3 56 yX3_requirePlace, .instanceMethod yX3_requirePlace, .selects RX3 yX3_requirePlace yX3_requirePlace, .initialized RX3, .code yX3_requirePlace cX3_requirePlace 2 none, .classLink RX3 122 "java/lang/IndexOutOfBoundsException", .initialized "java/lang/IndexOutOfBoundsException", .methodLink RX3 52 yX3_places, .instanceMethod yX3_places, .selects RX3 yX3_places yX3_places, .code yX3_places cX3_places 1 (some .int), .fieldLink RX3 9 "ThreePrimes" "levels" "I"] ++ wsX30 ++ (vx_atS RX3 126 "java/lang/IndexOutOfBoundsException" ["java/lang/RuntimeException", "java/lang/Exception"]).filter goodWord)
def wsX3_b : List Cond := .code yX3_b cX3_b 2 (some .int) :: ([.fieldLink RX3 17 "ThreePrimes" "rowB" "[I", .methodLink RX3 56 yX3_requirePlace, .instanceMethod yX3_requirePlace, .selects RX3 yX3_requirePlace yX3_requirePlace, .initialized RX3, .code yX3_requirePlace cX3_requirePlace 2 none, .classLink RX3 122 "java/lang/IndexOutOfBoundsException", .initialized "java/lang/IndexOutOfBoundsException", .methodLink RX3 52 yX3_places, .instanceMethod yX3_places, .selects RX3 yX3_places yX3_places, .code yX3_places cX3_places 1 (some .int), .fieldLink RX3 9 "ThreePrimes" "levels" "I"] ++ wsX30 ++ (vx_atS RX3 126 "java/lang/IndexOutOfBoundsException" ["java/lang/RuntimeException", "java/lang/Exception"]).filter goodWord)
def wsX3_swap : List Cond := .code yX3_swap cX3_swap 2 none :: ([.fieldLink RX3 13 "ThreePrimes" "rowA" "[I", .fieldLink RX3 17 "ThreePrimes" "rowB" "[I"] ++ wsX30)
def wsX3_fold_r1 : List Cond := [Cond.classLink RX3 45 "java/lang/IllegalArgumentException", Cond.initialized "java/lang/IllegalArgumentException", Cond.fieldLink RX3 35 "ThreePrimes" "folder" "LThreePrimes$Folder;", Cond.fieldLink RX3 13 "ThreePrimes" "rowA" "[I", Cond.fieldLink RX3 17 "ThreePrimes" "rowB" "[I", Cond.fieldLink RX3 9 "ThreePrimes" "levels" "I", Cond.fieldLink RX3 28 "ThreePrimes" "sums" "LThreePrimes$Sums;", Cond.fieldLink RX3 20 "ThreePrimes" "results" "I", Cond.methodLink RX3 61 yX0_foldRows, Cond.instanceMethod yX0_foldRows, Cond.selects RX0 yX0_foldRows yX0_foldRows, Cond.initialized RX0, Cond.code yX0_foldRows cX0_foldRows 10 none, Cond.fieldLink RX0 9 "ThreePrimes$Folder" "left" "[J", Cond.fieldLink RX0 15 "ThreePrimes$Folder" "right" "[J", Cond.methodLink RX0 25 yX0_loadRemainders, Cond.instanceMethod yX0_loadRemainders, Cond.selects RX0 yX0_loadRemainders yX0_loadRemainders, Cond.code yX0_loadRemainders cX0_loadRemainders 6 none, Cond.methodLink RX0 40 yX1_remainder, Cond.static yX1_remainder, Cond.initialized RX1, Cond.code yX1_remainder cX1_remainder 5 (some .long), Cond.methodLink RX0 29 yX0_foldRoundModulo]
def wsX3_fold_r2 : List Cond := [Cond.instanceMethod yX0_foldRoundModulo, Cond.selects RX0 yX0_foldRoundModulo yX0_foldRoundModulo, Cond.code yX0_foldRoundModulo cX0_foldRoundModulo 7 none, Cond.methodLink RX0 52 yX1_rootOfOne, Cond.static yX1_rootOfOne, Cond.code yX1_rootOfOne cX1_rootOfOne 2 (some .long), Cond.constantLong RX1 13 (3), Cond.methodLink RX1 7 yX1_raise, Cond.static yX1_raise, Cond.code yX1_raise cX1_raise 9 (some .long), Cond.methodLink RX0 56 yX0_listRootPowers, Cond.instanceMethod yX0_listRootPowers, Cond.selects RX0 yX0_listRootPowers yX0_listRootPowers, Cond.code yX0_listRootPowers cX0_listRootPowers 6 none, Cond.fieldLink RX0 18 "ThreePrimes$Folder" "rootPowers" "[J", Cond.methodLink RX0 60 yX0_turnIntoValues, Cond.instanceMethod yX0_turnIntoValues, Cond.selects RX0 yX0_turnIntoValues yX0_turnIntoValues, Cond.code yX0_turnIntoValues cX0_turnIntoValues 8 none, Cond.methodLink RX0 70 yX0_splitBlock, Cond.instanceMethod yX0_splitBlock, Cond.selects RX0 yX0_splitBlock yX0_splitBlock, Cond.code yX0_splitBlock cX0_splitBlock 13 none, Cond.methodLink RX0 64 yX1_inverse]
def wsX3_fold_r3 : List Cond := [Cond.static yX1_inverse, Cond.code yX1_inverse cX1_inverse 3 (some .long), Cond.methodLink RX0 67 yX0_turnBack, Cond.instanceMethod yX0_turnBack, Cond.selects RX0 yX0_turnBack yX0_turnBack, Cond.code yX0_turnBack cX0_turnBack 8 none, Cond.methodLink RX0 74 yX0_joinBlock, Cond.instanceMethod yX0_joinBlock, Cond.selects RX0 yX0_joinBlock yX0_joinBlock, Cond.code yX0_joinBlock cX0_joinBlock 15 none, Cond.methodLink RX0 33 yX0_takeAwayUpperHalf, Cond.instanceMethod yX0_takeAwayUpperHalf, Cond.selects RX0 yX0_takeAwayUpperHalf yX0_takeAwayUpperHalf, Cond.code yX0_takeAwayUpperHalf cX0_takeAwayUpperHalf 4 none, Cond.methodLink RX0 36 yX0_storeRemainders, Cond.instanceMethod yX0_storeRemainders, Cond.selects RX0 yX0_storeRemainders yX0_storeRemainders, Cond.code yX0_storeRemainders cX0_storeRemainders 5 none, Cond.methodLink RX0 46 yX2_setRemainder, Cond.instanceMethod yX2_setRemainder, Cond.selects RX2 yX2_setRemainder yX2_setRemainder, Cond.initialized RX2, Cond.code yX2_setRemainder cX2_setRemainder 5 none, Cond.fieldLink RX2 15 "ThreePrimes$Sums" "remainders" "[[I"]
def wsX3_fold_r4 : List Cond := [Cond.methodLink RX3 52 yX3_places, Cond.instanceMethod yX3_places, Cond.selects RX3 yX3_places yX3_places, Cond.initialized RX3, Cond.code yX3_places cX3_places 1 (some .int)]
def wsX3_fold : List Cond := .code yX3_fold cX3_fold 2 (some .int) :: ((wsX3_fold_r1 ++ (wsX3_fold_r2 ++ (wsX3_fold_r3 ++ wsX3_fold_r4))) ++ wsX30 ++ wsX00 ++ wsX20 ++ (vx_atS RX3 49 "java/lang/IllegalArgumentException" ["java/lang/RuntimeException", "java/lang/Exception"]).filter goodWord)
def wsX3_foldRowAWith_r1 : List Cond := [Cond.fieldLink RX3 35 "ThreePrimes" "folder" "LThreePrimes$Folder;", Cond.fieldLink RX3 13 "ThreePrimes" "rowA" "[I", Cond.fieldLink RX3 9 "ThreePrimes" "levels" "I", Cond.fieldLink RX3 39 "ThreePrimes" "powerSums" "LThreePrimes$Sums;", Cond.methodLink RX3 61 yX0_foldRows, Cond.instanceMethod yX0_foldRows, Cond.selects RX0 yX0_foldRows yX0_foldRows, Cond.initialized RX0, Cond.code yX0_foldRows cX0_foldRows 10 none, Cond.fieldLink RX0 9 "ThreePrimes$Folder" "left" "[J", Cond.fieldLink RX0 15 "ThreePrimes$Folder" "right" "[J", Cond.methodLink RX0 25 yX0_loadRemainders, Cond.instanceMethod yX0_loadRemainders, Cond.selects RX0 yX0_loadRemainders yX0_loadRemainders, Cond.code yX0_loadRemainders cX0_loadRemainders 6 none, Cond.methodLink RX0 40 yX1_remainder, Cond.static yX1_remainder, Cond.initialized RX1, Cond.code yX1_remainder cX1_remainder 5 (some .long), Cond.methodLink RX0 29 yX0_foldRoundModulo, Cond.instanceMethod yX0_foldRoundModulo, Cond.selects RX0 yX0_foldRoundModulo yX0_foldRoundModulo, Cond.code yX0_foldRoundModulo cX0_foldRoundModulo 7 none, Cond.methodLink RX0 52 yX1_rootOfOne]
def wsX3_foldRowAWith_r2 : List Cond := [Cond.static yX1_rootOfOne, Cond.code yX1_rootOfOne cX1_rootOfOne 2 (some .long), Cond.constantLong RX1 13 (3), Cond.methodLink RX1 7 yX1_raise, Cond.static yX1_raise, Cond.code yX1_raise cX1_raise 9 (some .long), Cond.methodLink RX0 56 yX0_listRootPowers, Cond.instanceMethod yX0_listRootPowers, Cond.selects RX0 yX0_listRootPowers yX0_listRootPowers, Cond.code yX0_listRootPowers cX0_listRootPowers 6 none, Cond.fieldLink RX0 18 "ThreePrimes$Folder" "rootPowers" "[J", Cond.methodLink RX0 60 yX0_turnIntoValues, Cond.instanceMethod yX0_turnIntoValues, Cond.selects RX0 yX0_turnIntoValues yX0_turnIntoValues, Cond.code yX0_turnIntoValues cX0_turnIntoValues 8 none, Cond.methodLink RX0 70 yX0_splitBlock, Cond.instanceMethod yX0_splitBlock, Cond.selects RX0 yX0_splitBlock yX0_splitBlock, Cond.code yX0_splitBlock cX0_splitBlock 13 none, Cond.methodLink RX0 64 yX1_inverse, Cond.static yX1_inverse, Cond.code yX1_inverse cX1_inverse 3 (some .long), Cond.methodLink RX0 67 yX0_turnBack, Cond.instanceMethod yX0_turnBack]
def wsX3_foldRowAWith_r3 : List Cond := [Cond.selects RX0 yX0_turnBack yX0_turnBack, Cond.code yX0_turnBack cX0_turnBack 8 none, Cond.methodLink RX0 74 yX0_joinBlock, Cond.instanceMethod yX0_joinBlock, Cond.selects RX0 yX0_joinBlock yX0_joinBlock, Cond.code yX0_joinBlock cX0_joinBlock 15 none, Cond.methodLink RX0 33 yX0_takeAwayUpperHalf, Cond.instanceMethod yX0_takeAwayUpperHalf, Cond.selects RX0 yX0_takeAwayUpperHalf yX0_takeAwayUpperHalf, Cond.code yX0_takeAwayUpperHalf cX0_takeAwayUpperHalf 4 none, Cond.methodLink RX0 36 yX0_storeRemainders, Cond.instanceMethod yX0_storeRemainders, Cond.selects RX0 yX0_storeRemainders yX0_storeRemainders, Cond.code yX0_storeRemainders cX0_storeRemainders 5 none, Cond.methodLink RX0 46 yX2_setRemainder, Cond.instanceMethod yX2_setRemainder, Cond.selects RX2 yX2_setRemainder yX2_setRemainder, Cond.initialized RX2, Cond.code yX2_setRemainder cX2_setRemainder 5 none, Cond.fieldLink RX2 15 "ThreePrimes$Sums" "remainders" "[[I", Cond.methodLink RX3 52 yX3_places, Cond.instanceMethod yX3_places, Cond.selects RX3 yX3_places yX3_places, Cond.initialized RX3]
def wsX3_foldRowAWith_r4 : List Cond := [Cond.code yX3_places cX3_places 1 (some .int), Cond.methodLink RX3 116 yX2_cutInto, Cond.instanceMethod yX2_cutInto, Cond.selects RX2 yX2_cutInto yX2_cutInto, Cond.code yX2_cutInto cX2_cutInto 4 none, Cond.methodLink RX2 20 yX2_lowest64Bits, Cond.instanceMethod yX2_lowest64Bits, Cond.selects RX2 yX2_lowest64Bits yX2_lowest64Bits, Cond.code yX2_lowest64Bits cX2_lowest64Bits 4 (some .long), Cond.constantLong RX2 27 (167477612308856833), Cond.methodLink RX2 24 yX2_moduloFirstTwo, Cond.instanceMethod yX2_moduloFirstTwo, Cond.selects RX2 yX2_moduloFirstTwo yX2_moduloFirstTwo, Cond.code yX2_moduloFirstTwo cX2_moduloFirstTwo 6 (some .long), Cond.constantLong RX2 37 (998244353), Cond.constantLong RX2 39 (47450712), Cond.constant RX2 41 (167772161), Cond.methodLink RX2 42 yX1_remainder, Cond.methodLink RX2 29 yX2_timesOfFirstTwo, Cond.instanceMethod yX2_timesOfFirstTwo, Cond.selects RX2 yX2_timesOfFirstTwo yX2_timesOfFirstTwo, Cond.code yX2_timesOfFirstTwo cX2_timesOfFirstTwo 8 (some .long), Cond.constantLong RX2 48 (469762049), Cond.constantLong RX2 50 (115990628)]
def wsX3_foldRowAWith_r5 : List Cond := [Cond.constant RX2 52 (469762049), Cond.constantLong RX2 53 (234881024)]
def wsX3_foldRowAWith : List Cond := .code yX3_foldRowAWith cX3_foldRowAWith 2 none :: ((wsX3_foldRowAWith_r1 ++ (wsX3_foldRowAWith_r2 ++ (wsX3_foldRowAWith_r3 ++ (wsX3_foldRowAWith_r4 ++ wsX3_foldRowAWith_r5)))) ++ wsX30 ++ wsX00 ++ wsX20)
def wsX3_power_r1 : List Cond := [Cond.classLink RX3 45 "java/lang/IllegalArgumentException", Cond.initialized "java/lang/IllegalArgumentException", Cond.fieldLink RX3 13 "ThreePrimes" "rowA" "[I", Cond.fieldLink RX3 42 "ThreePrimes" "powerBase" "[I", Cond.methodLink RX3 67 arraycopyName, Cond.native arraycopyName, Cond.static arraycopyName, Cond.initialized "java/lang/System", Cond.methodLink RX3 52 yX3_places, Cond.instanceMethod yX3_places, Cond.selects RX3 yX3_places yX3_places, Cond.initialized RX3, Cond.code yX3_places cX3_places 1 (some .int), Cond.fieldLink RX3 9 "ThreePrimes" "levels" "I", Cond.methodLink RX3 73 yX3_foldRowAWith, Cond.instanceMethod yX3_foldRowAWith, Cond.selects RX3 yX3_foldRowAWith yX3_foldRowAWith, Cond.code yX3_foldRowAWith cX3_foldRowAWith 2 none, Cond.fieldLink RX3 35 "ThreePrimes" "folder" "LThreePrimes$Folder;", Cond.fieldLink RX3 39 "ThreePrimes" "powerSums" "LThreePrimes$Sums;", Cond.methodLink RX3 61 yX0_foldRows, Cond.instanceMethod yX0_foldRows, Cond.selects RX0 yX0_foldRows yX0_foldRows, Cond.initialized RX0]
def wsX3_power_r2 : List Cond := [Cond.code yX0_foldRows cX0_foldRows 10 none, Cond.fieldLink RX0 9 "ThreePrimes$Folder" "left" "[J", Cond.fieldLink RX0 15 "ThreePrimes$Folder" "right" "[J", Cond.methodLink RX0 25 yX0_loadRemainders, Cond.instanceMethod yX0_loadRemainders, Cond.selects RX0 yX0_loadRemainders yX0_loadRemainders, Cond.code yX0_loadRemainders cX0_loadRemainders 6 none, Cond.methodLink RX0 40 yX1_remainder, Cond.static yX1_remainder, Cond.initialized RX1, Cond.code yX1_remainder cX1_remainder 5 (some .long), Cond.methodLink RX0 29 yX0_foldRoundModulo, Cond.instanceMethod yX0_foldRoundModulo, Cond.selects RX0 yX0_foldRoundModulo yX0_foldRoundModulo, Cond.code yX0_foldRoundModulo cX0_foldRoundModulo 7 none, Cond.methodLink RX0 52 yX1_rootOfOne, Cond.static yX1_rootOfOne, Cond.code yX1_rootOfOne cX1_rootOfOne 2 (some .long), Cond.constantLong RX1 13 (3), Cond.methodLink RX1 7 yX1_raise, Cond.static yX1_raise, Cond.code yX1_raise cX1_raise 9 (some .long), Cond.methodLink RX0 56 yX0_listRootPowers, Cond.instanceMethod yX0_listRootPowers]
def wsX3_power_r3 : List Cond := [Cond.selects RX0 yX0_listRootPowers yX0_listRootPowers, Cond.code yX0_listRootPowers cX0_listRootPowers 6 none, Cond.fieldLink RX0 18 "ThreePrimes$Folder" "rootPowers" "[J", Cond.methodLink RX0 60 yX0_turnIntoValues, Cond.instanceMethod yX0_turnIntoValues, Cond.selects RX0 yX0_turnIntoValues yX0_turnIntoValues, Cond.code yX0_turnIntoValues cX0_turnIntoValues 8 none, Cond.methodLink RX0 70 yX0_splitBlock, Cond.instanceMethod yX0_splitBlock, Cond.selects RX0 yX0_splitBlock yX0_splitBlock, Cond.code yX0_splitBlock cX0_splitBlock 13 none, Cond.methodLink RX0 64 yX1_inverse, Cond.static yX1_inverse, Cond.code yX1_inverse cX1_inverse 3 (some .long), Cond.methodLink RX0 67 yX0_turnBack, Cond.instanceMethod yX0_turnBack, Cond.selects RX0 yX0_turnBack yX0_turnBack, Cond.code yX0_turnBack cX0_turnBack 8 none, Cond.methodLink RX0 74 yX0_joinBlock, Cond.instanceMethod yX0_joinBlock, Cond.selects RX0 yX0_joinBlock yX0_joinBlock, Cond.code yX0_joinBlock cX0_joinBlock 15 none, Cond.methodLink RX0 33 yX0_takeAwayUpperHalf, Cond.instanceMethod yX0_takeAwayUpperHalf]
def wsX3_power_r4 : List Cond := [Cond.selects RX0 yX0_takeAwayUpperHalf yX0_takeAwayUpperHalf, Cond.code yX0_takeAwayUpperHalf cX0_takeAwayUpperHalf 4 none, Cond.methodLink RX0 36 yX0_storeRemainders, Cond.instanceMethod yX0_storeRemainders, Cond.selects RX0 yX0_storeRemainders yX0_storeRemainders, Cond.code yX0_storeRemainders cX0_storeRemainders 5 none, Cond.methodLink RX0 46 yX2_setRemainder, Cond.instanceMethod yX2_setRemainder, Cond.selects RX2 yX2_setRemainder yX2_setRemainder, Cond.initialized RX2, Cond.code yX2_setRemainder cX2_setRemainder 5 none, Cond.fieldLink RX2 15 "ThreePrimes$Sums" "remainders" "[[I", Cond.methodLink RX3 116 yX2_cutInto, Cond.instanceMethod yX2_cutInto, Cond.selects RX2 yX2_cutInto yX2_cutInto, Cond.code yX2_cutInto cX2_cutInto 4 none, Cond.methodLink RX2 20 yX2_lowest64Bits, Cond.instanceMethod yX2_lowest64Bits, Cond.selects RX2 yX2_lowest64Bits yX2_lowest64Bits, Cond.code yX2_lowest64Bits cX2_lowest64Bits 4 (some .long), Cond.constantLong RX2 27 (167477612308856833), Cond.methodLink RX2 24 yX2_moduloFirstTwo, Cond.instanceMethod yX2_moduloFirstTwo, Cond.selects RX2 yX2_moduloFirstTwo yX2_moduloFirstTwo]
def wsX3_power_r5 : List Cond := [Cond.code yX2_moduloFirstTwo cX2_moduloFirstTwo 6 (some .long), Cond.constantLong RX2 37 (998244353), Cond.constantLong RX2 39 (47450712), Cond.constant RX2 41 (167772161), Cond.methodLink RX2 42 yX1_remainder, Cond.methodLink RX2 29 yX2_timesOfFirstTwo, Cond.instanceMethod yX2_timesOfFirstTwo, Cond.selects RX2 yX2_timesOfFirstTwo yX2_timesOfFirstTwo, Cond.code yX2_timesOfFirstTwo cX2_timesOfFirstTwo 8 (some .long), Cond.constantLong RX2 48 (469762049), Cond.constantLong RX2 50 (115990628), Cond.constant RX2 52 (469762049), Cond.constantLong RX2 53 (234881024)]
def wsX3_power : List Cond := .code yX3_power cX3_power 4 (some .int) :: ((wsX3_power_r1 ++ (wsX3_power_r2 ++ (wsX3_power_r3 ++ (wsX3_power_r4 ++ wsX3_power_r5)))) ++ wsX30 ++ wsX00 ++ wsX20 ++ (vx_atS RX3 49 "java/lang/IllegalArgumentException" ["java/lang/RuntimeException", "java/lang/Exception"]).filter goodWord)
def wsX3_requireResult : List Cond := .code yX3_requireResult cX3_requireResult 2 none :: ([.classLink RX3 122 "java/lang/IndexOutOfBoundsException", .initialized "java/lang/IndexOutOfBoundsException", .fieldLink RX3 20 "ThreePrimes" "results" "I"] ++ wsX30 ++ (vx_atS RX3 126 "java/lang/IndexOutOfBoundsException" ["java/lang/RuntimeException", "java/lang/Exception"]).filter goodWord)
def wsX3_low_r1 : List Cond := [Cond.fieldLink RX3 28 "ThreePrimes" "sums" "LThreePrimes$Sums;", Cond.methodLink RX3 77 yX3_requireResult, Cond.instanceMethod yX3_requireResult, Cond.selects RX3 yX3_requireResult yX3_requireResult, Cond.initialized RX3, Cond.code yX3_requireResult cX3_requireResult 2 none, Cond.classLink RX3 122 "java/lang/IndexOutOfBoundsException", Cond.initialized "java/lang/IndexOutOfBoundsException", Cond.fieldLink RX3 20 "ThreePrimes" "results" "I", Cond.methodLink RX3 80 yX2_lowest64Bits, Cond.instanceMethod yX2_lowest64Bits, Cond.selects RX2 yX2_lowest64Bits yX2_lowest64Bits, Cond.initialized RX2, Cond.code yX2_lowest64Bits cX2_lowest64Bits 4 (some .long), Cond.constantLong RX2 27 (167477612308856833), Cond.methodLink RX2 24 yX2_moduloFirstTwo, Cond.instanceMethod yX2_moduloFirstTwo, Cond.selects RX2 yX2_moduloFirstTwo yX2_moduloFirstTwo, Cond.code yX2_moduloFirstTwo cX2_moduloFirstTwo 6 (some .long), Cond.fieldLink RX2 15 "ThreePrimes$Sums" "remainders" "[[I", Cond.constantLong RX2 37 (998244353), Cond.constantLong RX2 39 (47450712), Cond.constant RX2 41 (167772161), Cond.methodLink RX2 42 yX1_remainder]
def wsX3_low_r2 : List Cond := [Cond.static yX1_remainder, Cond.initialized RX1, Cond.code yX1_remainder cX1_remainder 5 (some .long), Cond.methodLink RX2 29 yX2_timesOfFirstTwo, Cond.instanceMethod yX2_timesOfFirstTwo, Cond.selects RX2 yX2_timesOfFirstTwo yX2_timesOfFirstTwo, Cond.code yX2_timesOfFirstTwo cX2_timesOfFirstTwo 8 (some .long), Cond.constantLong RX2 48 (469762049), Cond.constantLong RX2 50 (115990628), Cond.constant RX2 52 (469762049), Cond.constantLong RX2 53 (234881024)]
def wsX3_low : List Cond := .code yX3_low cX3_low 2 (some .long) :: ((wsX3_low_r1 ++ wsX3_low_r2) ++ wsX30 ++ wsX20 ++ (vx_atS RX3 126 "java/lang/IndexOutOfBoundsException" ["java/lang/RuntimeException", "java/lang/Exception"]).filter goodWord)
def wsX3_high_r1 : List Cond := [Cond.fieldLink RX3 28 "ThreePrimes" "sums" "LThreePrimes$Sums;", Cond.methodLink RX3 77 yX3_requireResult, Cond.instanceMethod yX3_requireResult, Cond.selects RX3 yX3_requireResult yX3_requireResult, Cond.initialized RX3, Cond.code yX3_requireResult cX3_requireResult 2 none, Cond.classLink RX3 122 "java/lang/IndexOutOfBoundsException", Cond.initialized "java/lang/IndexOutOfBoundsException", Cond.fieldLink RX3 20 "ThreePrimes" "results" "I", Cond.methodLink RX3 84 yX2_bitsAbove64, Cond.instanceMethod yX2_bitsAbove64, Cond.selects RX2 yX2_bitsAbove64 yX2_bitsAbove64, Cond.initialized RX2, Cond.code yX2_bitsAbove64 cX2_bitsAbove64 10 (some .int), Cond.constantLong RX2 33 (1166016513), Cond.constantLong RX2 35 (38993920), Cond.methodLink RX2 24 yX2_moduloFirstTwo, Cond.instanceMethod yX2_moduloFirstTwo, Cond.selects RX2 yX2_moduloFirstTwo yX2_moduloFirstTwo, Cond.code yX2_moduloFirstTwo cX2_moduloFirstTwo 6 (some .long), Cond.fieldLink RX2 15 "ThreePrimes$Sums" "remainders" "[[I", Cond.constantLong RX2 37 (998244353), Cond.constantLong RX2 39 (47450712), Cond.constant RX2 41 (167772161)]
def wsX3_high_r2 : List Cond := [Cond.methodLink RX2 42 yX1_remainder, Cond.static yX1_remainder, Cond.initialized RX1, Cond.code yX1_remainder cX1_remainder 5 (some .long), Cond.methodLink RX2 29 yX2_timesOfFirstTwo, Cond.instanceMethod yX2_timesOfFirstTwo, Cond.selects RX2 yX2_timesOfFirstTwo yX2_timesOfFirstTwo, Cond.code yX2_timesOfFirstTwo cX2_timesOfFirstTwo 8 (some .long), Cond.constantLong RX2 48 (469762049), Cond.constantLong RX2 50 (115990628), Cond.constant RX2 52 (469762049), Cond.constantLong RX2 53 (234881024)]
def wsX3_high : List Cond := .code yX3_high cX3_high 2 (some .int) :: ((wsX3_high_r1 ++ wsX3_high_r2) ++ wsX30 ++ wsX20 ++ (vx_atS RX3 126 "java/lang/IndexOutOfBoundsException" ["java/lang/RuntimeException", "java/lang/Exception"]).filter goodWord)
def wsX3_requirePrime : List Cond := .code yX3_requirePrime cX3_requirePrime 2 none :: ([.classLink RX3 45 "java/lang/IllegalArgumentException", .initialized "java/lang/IllegalArgumentException", .fieldLink RX3 99 "ThreePrimes" "PRIMES" "[I"] ++ (vx_atS RX3 49 "java/lang/IllegalArgumentException" ["java/lang/RuntimeException", "java/lang/Exception"]).filter goodWord)
def wsX3_rest : List Cond := .code yX3_rest cX3_rest 3 (some .int) :: ([.fieldLink RX3 28 "ThreePrimes" "sums" "LThreePrimes$Sums;", .methodLink RX3 88 yX3_requirePrime, .instanceMethod yX3_requirePrime, .selects RX3 yX3_requirePrime yX3_requirePrime, .initialized RX3, .code yX3_requirePrime cX3_requirePrime 2 none, .classLink RX3 45 "java/lang/IllegalArgumentException", .initialized "java/lang/IllegalArgumentException", .fieldLink RX3 99 "ThreePrimes" "PRIMES" "[I", .methodLink RX3 77 yX3_requireResult, .instanceMethod yX3_requireResult, .selects RX3 yX3_requireResult yX3_requireResult, .code yX3_requireResult cX3_requireResult 2 none, .classLink RX3 122 "java/lang/IndexOutOfBoundsException", .initialized "java/lang/IndexOutOfBoundsException", .fieldLink RX3 20 "ThreePrimes" "results" "I", .methodLink RX3 91 yX2_remainder, .instanceMethod yX2_remainder, .selects RX2 yX2_remainder yX2_remainder, .initialized RX2, .code yX2_remainder cX2_remainder 3 (some .int), .fieldLink RX2 15 "ThreePrimes$Sums" "remainders" "[[I"] ++ wsX30 ++ wsX20 ++ (vx_atS RX3 49 "java/lang/IllegalArgumentException" ["java/lang/RuntimeException", "java/lang/Exception"]).filter goodWord ++ (vx_atS RX3 126 "java/lang/IndexOutOfBoundsException" ["java/lang/RuntimeException", "java/lang/Exception"]).filter goodWord)
def wsX3_rootToThe : List Cond := .code yX3_rootToThe cX3_rootToThe 4 (some .long) :: ([.fieldLink RX3 99 "ThreePrimes" "PRIMES" "[I", .fieldLink RX3 9 "ThreePrimes" "levels" "I", .methodLink RX3 131 yX1_rootOfOne, .static yX1_rootOfOne, .initialized RX1, .code yX1_rootOfOne cX1_rootOfOne 2 (some .long), .constantLong RX1 13 (3), .methodLink RX1 7 yX1_raise, .static yX1_raise, .code yX1_raise cX1_raise 9 (some .long), .methodLink RX3 52 yX3_places, .instanceMethod yX3_places, .selects RX3 yX3_places yX3_places, .initialized RX3, .code yX3_places cX3_places 1 (some .int), .methodLink RX3 134 yX1_raise] ++ wsX30)
def wsX3_rowAAt : List Cond := .code yX3_rowAAt cX3_rowAAt 7 (some .long) :: ([.fieldLink RX3 13 "ThreePrimes" "rowA" "[I", .methodLink RX3 52 yX3_places, .instanceMethod yX3_places, .selects RX3 yX3_places yX3_places, .initialized RX3, .code yX3_places cX3_places 1 (some .int), .fieldLink RX3 9 "ThreePrimes" "levels" "I", .methodLink RX3 120 yX1_remainder, .static yX1_remainder, .initialized RX1, .code yX1_remainder cX1_remainder 5 (some .long)] ++ wsX30)
def wsX3_value_r1 : List Cond := [Cond.fieldLink RX3 99 "ThreePrimes" "PRIMES" "[I", Cond.methodLink RX3 88 yX3_requirePrime, Cond.instanceMethod yX3_requirePrime, Cond.selects RX3 yX3_requirePrime yX3_requirePrime, Cond.initialized RX3, Cond.code yX3_requirePrime cX3_requirePrime 2 none, Cond.classLink RX3 45 "java/lang/IllegalArgumentException", Cond.initialized "java/lang/IllegalArgumentException", Cond.methodLink RX3 56 yX3_requirePlace, Cond.instanceMethod yX3_requirePlace, Cond.selects RX3 yX3_requirePlace yX3_requirePlace, Cond.code yX3_requirePlace cX3_requirePlace 2 none, Cond.classLink RX3 122 "java/lang/IndexOutOfBoundsException", Cond.initialized "java/lang/IndexOutOfBoundsException", Cond.methodLink RX3 52 yX3_places, Cond.instanceMethod yX3_places, Cond.selects RX3 yX3_places yX3_places, Cond.code yX3_places cX3_places 1 (some .int), Cond.fieldLink RX3 9 "ThreePrimes" "levels" "I", Cond.methodLink RX3 95 yX3_rootToThe, Cond.instanceMethod yX3_rootToThe, Cond.selects RX3 yX3_rootToThe yX3_rootToThe, Cond.code yX3_rootToThe cX3_rootToThe 4 (some .long), Cond.methodLink RX3 131 yX1_rootOfOne]
def wsX3_value_r2 : List Cond := [Cond.static yX1_rootOfOne, Cond.initialized RX1, Cond.code yX1_rootOfOne cX1_rootOfOne 2 (some .long), Cond.constantLong RX1 13 (3), Cond.methodLink RX1 7 yX1_raise, Cond.static yX1_raise, Cond.code yX1_raise cX1_raise 9 (some .long), Cond.methodLink RX3 134 yX1_raise, Cond.methodLink RX3 102 yX3_rowAAt, Cond.instanceMethod yX3_rowAAt, Cond.selects RX3 yX3_rowAAt yX3_rowAAt, Cond.code yX3_rowAAt cX3_rowAAt 7 (some .long), Cond.fieldLink RX3 13 "ThreePrimes" "rowA" "[I", Cond.methodLink RX3 120 yX1_remainder, Cond.static yX1_remainder, Cond.code yX1_remainder cX1_remainder 5 (some .long)]
def wsX3_value : List Cond := .code yX3_value cX3_value 3 (some .int) :: ((wsX3_value_r1 ++ wsX3_value_r2) ++ wsX30 ++ (vx_atS RX3 49 "java/lang/IllegalArgumentException" ["java/lang/RuntimeException", "java/lang/Exception"]).filter goodWord ++ (vx_atS RX3 126 "java/lang/IndexOutOfBoundsException" ["java/lang/RuntimeException", "java/lang/Exception"]).filter goodWord)
def wsX3_back_r1 : List Cond := [Cond.fieldLink RX3 99 "ThreePrimes" "PRIMES" "[I", Cond.methodLink RX3 88 yX3_requirePrime, Cond.instanceMethod yX3_requirePrime, Cond.selects RX3 yX3_requirePrime yX3_requirePrime, Cond.initialized RX3, Cond.code yX3_requirePrime cX3_requirePrime 2 none, Cond.classLink RX3 45 "java/lang/IllegalArgumentException", Cond.initialized "java/lang/IllegalArgumentException", Cond.methodLink RX3 56 yX3_requirePlace, Cond.instanceMethod yX3_requirePlace, Cond.selects RX3 yX3_requirePlace yX3_requirePlace, Cond.code yX3_requirePlace cX3_requirePlace 2 none, Cond.classLink RX3 122 "java/lang/IndexOutOfBoundsException", Cond.initialized "java/lang/IndexOutOfBoundsException", Cond.methodLink RX3 52 yX3_places, Cond.instanceMethod yX3_places, Cond.selects RX3 yX3_places yX3_places, Cond.code yX3_places cX3_places 1 (some .int), Cond.fieldLink RX3 9 "ThreePrimes" "levels" "I", Cond.methodLink RX3 95 yX3_rootToThe, Cond.instanceMethod yX3_rootToThe, Cond.selects RX3 yX3_rootToThe yX3_rootToThe, Cond.code yX3_rootToThe cX3_rootToThe 4 (some .long), Cond.methodLink RX3 131 yX1_rootOfOne]
def wsX3_back_r2 : List Cond := [Cond.static yX1_rootOfOne, Cond.initialized RX1, Cond.code yX1_rootOfOne cX1_rootOfOne 2 (some .long), Cond.constantLong RX1 13 (3), Cond.methodLink RX1 7 yX1_raise, Cond.static yX1_raise, Cond.code yX1_raise cX1_raise 9 (some .long), Cond.methodLink RX3 134 yX1_raise, Cond.methodLink RX3 102 yX3_rowAAt, Cond.instanceMethod yX3_rowAAt, Cond.selects RX3 yX3_rowAAt yX3_rowAAt, Cond.code yX3_rowAAt cX3_rowAAt 7 (some .long), Cond.fieldLink RX3 13 "ThreePrimes" "rowA" "[I", Cond.methodLink RX3 120 yX1_remainder, Cond.static yX1_remainder, Cond.code yX1_remainder cX1_remainder 5 (some .long), Cond.methodLink RX3 106 yX1_inverse, Cond.static yX1_inverse, Cond.code yX1_inverse cX1_inverse 3 (some .long)]
def wsX3_back : List Cond := .code yX3_back cX3_back 4 (some .int) :: ((wsX3_back_r1 ++ wsX3_back_r2) ++ wsX30 ++ (vx_atS RX3 49 "java/lang/IllegalArgumentException" ["java/lang/RuntimeException", "java/lang/Exception"]).filter goodWord ++ (vx_atS RX3 126 "java/lang/IndexOutOfBoundsException" ["java/lang/RuntimeException", "java/lang/Exception"]).filter goodWord)
def wsX3_keep_r1 : List Cond := [Cond.classLink RX3 111 "java/lang/IllegalStateException", Cond.initialized "java/lang/IllegalStateException", Cond.fieldLink RX3 20 "ThreePrimes" "results" "I", Cond.fieldLink RX3 28 "ThreePrimes" "sums" "LThreePrimes$Sums;", Cond.fieldLink RX3 13 "ThreePrimes" "rowA" "[I", Cond.methodLink RX3 52 yX3_places, Cond.instanceMethod yX3_places, Cond.selects RX3 yX3_places yX3_places, Cond.initialized RX3, Cond.code yX3_places cX3_places 1 (some .int), Cond.fieldLink RX3 9 "ThreePrimes" "levels" "I", Cond.methodLink RX3 116 yX2_cutInto, Cond.instanceMethod yX2_cutInto, Cond.selects RX2 yX2_cutInto yX2_cutInto, Cond.initialized RX2, Cond.code yX2_cutInto cX2_cutInto 4 none, Cond.methodLink RX2 20 yX2_lowest64Bits, Cond.instanceMethod yX2_lowest64Bits, Cond.selects RX2 yX2_lowest64Bits yX2_lowest64Bits, Cond.code yX2_lowest64Bits cX2_lowest64Bits 4 (some .long), Cond.constantLong RX2 27 (167477612308856833), Cond.methodLink RX2 24 yX2_moduloFirstTwo, Cond.instanceMethod yX2_moduloFirstTwo, Cond.selects RX2 yX2_moduloFirstTwo yX2_moduloFirstTwo]
def wsX3_keep_r2 : List Cond := [Cond.code yX2_moduloFirstTwo cX2_moduloFirstTwo 6 (some .long), Cond.fieldLink RX2 15 "ThreePrimes$Sums" "remainders" "[[I", Cond.constantLong RX2 37 (998244353), Cond.constantLong RX2 39 (47450712), Cond.constant RX2 41 (167772161), Cond.methodLink RX2 42 yX1_remainder, Cond.static yX1_remainder, Cond.initialized RX1, Cond.code yX1_remainder cX1_remainder 5 (some .long), Cond.methodLink RX2 29 yX2_timesOfFirstTwo, Cond.instanceMethod yX2_timesOfFirstTwo, Cond.selects RX2 yX2_timesOfFirstTwo yX2_timesOfFirstTwo, Cond.code yX2_timesOfFirstTwo cX2_timesOfFirstTwo 8 (some .long), Cond.constantLong RX2 48 (469762049), Cond.constantLong RX2 50 (115990628), Cond.constant RX2 52 (469762049), Cond.constantLong RX2 53 (234881024)]
def wsX3_keep : List Cond := .code yX3_keep cX3_keep 1 none :: ((wsX3_keep_r1 ++ wsX3_keep_r2) ++ wsX30 ++ wsX20 ++ (vx_atS RX3 115 "java/lang/IllegalStateException" ["java/lang/RuntimeException", "java/lang/Exception"]).filter goodWord)
def wsX3_product : List Cond := .code yX3_product cX3_product 4 (some .int) :: ([.fieldLink RX3 99 "ThreePrimes" "PRIMES" "[I", .methodLink RX3 88 yX3_requirePrime, .instanceMethod yX3_requirePrime, .selects RX3 yX3_requirePrime yX3_requirePrime, .initialized RX3, .code yX3_requirePrime cX3_requirePrime 2 none, .classLink RX3 45 "java/lang/IllegalArgumentException", .initialized "java/lang/IllegalArgumentException", .methodLink RX3 120 yX1_remainder, .static yX1_remainder, .initialized RX1, .code yX1_remainder cX1_remainder 5 (some .long)] ++ (vx_atS RX3 49 "java/lang/IllegalArgumentException" ["java/lang/RuntimeException", "java/lang/Exception"]).filter goodWord)
def wsX3_root_r1 : List Cond := [Cond.methodLink RX3 88 yX3_requirePrime, Cond.instanceMethod yX3_requirePrime, Cond.selects RX3 yX3_requirePrime yX3_requirePrime, Cond.initialized RX3, Cond.code yX3_requirePrime cX3_requirePrime 2 none, Cond.classLink RX3 45 "java/lang/IllegalArgumentException", Cond.initialized "java/lang/IllegalArgumentException", Cond.fieldLink RX3 99 "ThreePrimes" "PRIMES" "[I", Cond.methodLink RX3 95 yX3_rootToThe, Cond.instanceMethod yX3_rootToThe, Cond.selects RX3 yX3_rootToThe yX3_rootToThe, Cond.code yX3_rootToThe cX3_rootToThe 4 (some .long), Cond.fieldLink RX3 9 "ThreePrimes" "levels" "I", Cond.methodLink RX3 131 yX1_rootOfOne, Cond.static yX1_rootOfOne, Cond.initialized RX1, Cond.code yX1_rootOfOne cX1_rootOfOne 2 (some .long), Cond.constantLong RX1 13 (3), Cond.methodLink RX1 7 yX1_raise, Cond.static yX1_raise, Cond.code yX1_raise cX1_raise 9 (some .long), Cond.methodLink RX3 52 yX3_places, Cond.instanceMethod yX3_places, Cond.selects RX3 yX3_places yX3_places]
def wsX3_root_r2 : List Cond := [Cond.code yX3_places cX3_places 1 (some .int), Cond.methodLink RX3 134 yX1_raise]
def wsX3_root : List Cond := .code yX3_root cX3_root 3 (some .int) :: ((wsX3_root_r1 ++ wsX3_root_r2) ++ wsX30 ++ (vx_atS RX3 49 "java/lang/IllegalArgumentException" ["java/lang/RuntimeException", "java/lang/Exception"]).filter goodWord)
def wsX4_init : List Cond := .code yX4_init cX4_init 1 none :: ([.methodLink RX4 1 objectInit, .instanceMethod objectInit, .code objectInit ⟨#[0xb1]⟩ 1 none, .fieldLink RX4 7 "ThreePrimesModel" "n" "I", .arrayClass .int, .fieldLink RX4 13 "ThreePrimesModel" "a" "[I", .fieldLink RX4 17 "ThreePrimesModel" "b" "[I", .arrayClass .long, .fieldLink RX4 20 "ThreePrimesModel" "low" "[J", .fieldLink RX4 24 "ThreePrimesModel" "high" "[J", .fieldLink RX4 27 "ThreePrimesModel" "kept" "[I", .fieldLink RX4 30 "ThreePrimesModel" "other" "[I", .fieldLink RX4 33 "ThreePrimesModel" "sums" "[I"] ++ wsX40)
def wsX4_thrown : List Cond := .code yX4_thrown cX4_thrown 1 (some .int) :: ([.fieldLink RX4 36 "ThreePrimesModel" "thrown" "I"] ++ wsX40)
def wsX4_size : List Cond := .code yX4_size cX4_size 3 none :: ([.fieldLink RX4 36 "ThreePrimesModel" "thrown" "I", .fieldLink RX4 7 "ThreePrimesModel" "n" "I", .fieldLink RX4 39 "ThreePrimesModel" "results" "I", .fieldLink RX4 13 "ThreePrimesModel" "a" "[I", .fieldLink RX4 17 "ThreePrimesModel" "b" "[I"] ++ wsX40)
def wsX4_noPlace : List Cond := .code yX4_noPlace cX4_noPlace 2 (some .boolean) :: ([.fieldLink RX4 7 "ThreePrimesModel" "n" "I", .fieldLink RX4 36 "ThreePrimesModel" "thrown" "I"] ++ wsX40)
def wsX4_setA : List Cond := .code yX4_setA cX4_setA 4 (some .int) :: ([.fieldLink RX4 13 "ThreePrimesModel" "a" "[I", .methodLink RX4 42 yX4_noPlace, .instanceMethod yX4_noPlace, .selects RX4 yX4_noPlace yX4_noPlace, .initialized RX4, .code yX4_noPlace cX4_noPlace 2 (some .boolean), .fieldLink RX4 7 "ThreePrimesModel" "n" "I", .fieldLink RX4 36 "ThreePrimesModel" "thrown" "I"] ++ wsX40)
def wsX4_setB : List Cond := .code yX4_setB cX4_setB 4 (some .int) :: ([.fieldLink RX4 17 "ThreePrimesModel" "b" "[I", .methodLink RX4 42 yX4_noPlace, .instanceMethod yX4_noPlace, .selects RX4 yX4_noPlace yX4_noPlace, .initialized RX4, .code yX4_noPlace cX4_noPlace 2 (some .boolean), .fieldLink RX4 7 "ThreePrimesModel" "n" "I", .fieldLink RX4 36 "ThreePrimesModel" "thrown" "I"] ++ wsX40)
def wsX4_a : List Cond := .code yX4_a cX4_a 2 (some .int) :: ([.fieldLink RX4 13 "ThreePrimesModel" "a" "[I", .methodLink RX4 42 yX4_noPlace, .instanceMethod yX4_noPlace, .selects RX4 yX4_noPlace yX4_noPlace, .initialized RX4, .code yX4_noPlace cX4_noPlace 2 (some .boolean), .fieldLink RX4 7 "ThreePrimesModel" "n" "I", .fieldLink RX4 36 "ThreePrimesModel" "thrown" "I"] ++ wsX40)
def wsX4_b : List Cond := .code yX4_b cX4_b 2 (some .int) :: ([.fieldLink RX4 17 "ThreePrimesModel" "b" "[I", .methodLink RX4 42 yX4_noPlace, .instanceMethod yX4_noPlace, .selects RX4 yX4_noPlace yX4_noPlace, .initialized RX4, .code yX4_noPlace cX4_noPlace 2 (some .boolean), .fieldLink RX4 7 "ThreePrimesModel" "n" "I", .fieldLink RX4 36 "ThreePrimesModel" "thrown" "I"] ++ wsX40)
def wsX4_swap : List Cond := .code yX4_swap cX4_swap 3 none :: ([.fieldLink RX4 36 "ThreePrimesModel" "thrown" "I", .fieldLink RX4 7 "ThreePrimesModel" "n" "I", .fieldLink RX4 13 "ThreePrimesModel" "a" "[I", .fieldLink RX4 17 "ThreePrimesModel" "b" "[I"] ++ wsX40)
def wsX4_add : List Cond := .code yX4_add cX4_add 7 none :: ([.fieldLink RX4 20 "ThreePrimesModel" "low" "[J", .constantLong RX4 46 (-9223372036854775808), .fieldLink RX4 24 "ThreePrimesModel" "high" "[J", .constantLong RX4 48 (-1)] ++ wsX40)
def wsX4_fold : List Cond := .code yX4_fold cX4_fold 7 (some .int) :: ([.fieldLink RX4 36 "ThreePrimesModel" "thrown" "I", .fieldLink RX4 7 "ThreePrimesModel" "n" "I", .fieldLink RX4 39 "ThreePrimesModel" "results" "I", .fieldLink RX4 20 "ThreePrimesModel" "low" "[J", .fieldLink RX4 24 "ThreePrimesModel" "high" "[J", .fieldLink RX4 13 "ThreePrimesModel" "a" "[I", .fieldLink RX4 17 "ThreePrimesModel" "b" "[I", .methodLink RX4 50 yX4_add, .instanceMethod yX4_add, .selects RX4 yX4_add yX4_add, .initialized RX4, .code yX4_add cX4_add 7 none, .constantLong RX4 46 (-9223372036854775808), .constantLong RX4 48 (-1)] ++ wsX40)
def wsX4_foldKept : List Cond := .code yX4_foldKept cX4_foldKept 5 none :: ([.fieldLink RX4 33 "ThreePrimesModel" "sums" "[I", .fieldLink RX4 7 "ThreePrimesModel" "n" "I", .fieldLink RX4 27 "ThreePrimesModel" "kept" "[I", .fieldLink RX4 30 "ThreePrimesModel" "other" "[I"] ++ wsX40)
def wsX4_power : List Cond := .code yX4_power cX4_power 5 (some .int) :: ([.fieldLink RX4 36 "ThreePrimesModel" "thrown" "I", .fieldLink RX4 7 "ThreePrimesModel" "n" "I", .fieldLink RX4 27 "ThreePrimesModel" "kept" "[I", .fieldLink RX4 13 "ThreePrimesModel" "a" "[I", .fieldLink RX4 30 "ThreePrimesModel" "other" "[I", .methodLink RX4 54 yX4_foldKept, .instanceMethod yX4_foldKept, .selects RX4 yX4_foldKept yX4_foldKept, .initialized RX4, .code yX4_foldKept cX4_foldKept 5 none, .fieldLink RX4 33 "ThreePrimesModel" "sums" "[I"] ++ wsX40)
def wsX4_noResult : List Cond := .code yX4_noResult cX4_noResult 2 (some .boolean) :: ([.fieldLink RX4 39 "ThreePrimesModel" "results" "I"] ++ wsX40)
def wsX4_low : List Cond := .code yX4_low cX4_low 2 (some .long) :: ([.fieldLink RX4 36 "ThreePrimesModel" "thrown" "I", .fieldLink RX4 20 "ThreePrimesModel" "low" "[J", .methodLink RX4 57 yX4_noResult, .instanceMethod yX4_noResult, .selects RX4 yX4_noResult yX4_noResult, .initialized RX4, .code yX4_noResult cX4_noResult 2 (some .boolean), .fieldLink RX4 39 "ThreePrimesModel" "results" "I"] ++ wsX40)
def wsX4_high : List Cond := .code yX4_high cX4_high 2 (some .int) :: ([.fieldLink RX4 36 "ThreePrimesModel" "thrown" "I", .fieldLink RX4 24 "ThreePrimesModel" "high" "[J", .methodLink RX4 57 yX4_noResult, .instanceMethod yX4_noResult, .selects RX4 yX4_noResult yX4_noResult, .initialized RX4, .code yX4_noResult cX4_noResult 2 (some .boolean), .fieldLink RX4 39 "ThreePrimesModel" "results" "I"] ++ wsX40)
def wsX4_prime : List Cond := .code yX4_prime cX4_prime 1 (some .long) :: ([.constantLong RX4 60 (998244353), .constantLong RX4 62 (167772161), .constantLong RX4 64 (469762049)])
def wsX4_noPrime : List Cond := .code yX4_noPrime cX4_noPrime 1 (some .boolean) :: ([])
def wsX4_restOf : List Cond := .code yX4_restOf cX4_restOf 6 (some .long) :: ([])
def wsX4_rest : List Cond := .code yX4_rest cX4_rest 8 (some .int) :: ([.fieldLink RX4 36 "ThreePrimesModel" "thrown" "I", .fieldLink RX4 24 "ThreePrimesModel" "high" "[J", .constantLong RX4 77 (2), .fieldLink RX4 20 "ThreePrimesModel" "low" "[J", .methodLink RX4 66 yX4_noPrime, .static yX4_noPrime, .initialized RX4, .code yX4_noPrime cX4_noPrime 1 (some .boolean), .methodLink RX4 57 yX4_noResult, .instanceMethod yX4_noResult, .selects RX4 yX4_noResult yX4_noResult, .code yX4_noResult cX4_noResult 2 (some .boolean), .fieldLink RX4 39 "ThreePrimesModel" "results" "I", .methodLink RX4 69 yX4_prime, .static yX4_prime, .code yX4_prime cX4_prime 1 (some .long), .constantLong RX4 60 (998244353), .constantLong RX4 62 (167772161), .constantLong RX4 64 (469762049), .methodLink RX4 73 yX4_restOf, .static yX4_restOf, .code yX4_restOf cX4_restOf 6 (some .long)] ++ wsX40)
def wsX4_raised : List Cond := .code yX4_raised cX4_raised 12 (some .long) :: ([.constantLong RX4 77 (2)])
def wsX4_rootOf : List Cond := .code yX4_rootOf cX4_rootOf 4 (some .long) :: ([.constantLong RX4 79 (3), .fieldLink RX4 7 "ThreePrimesModel" "n" "I", .methodLink RX4 69 yX4_prime, .static yX4_prime, .initialized RX4, .code yX4_prime cX4_prime 1 (some .long), .constantLong RX4 60 (998244353), .constantLong RX4 62 (167772161), .constantLong RX4 64 (469762049), .methodLink RX4 81 yX4_raised, .static yX4_raised, .code yX4_raised cX4_raised 12 (some .long), .constantLong RX4 77 (2)] ++ wsX40)
def wsX4_sumOf : List Cond := .code yX4_sumOf cX4_sumOf 13 (some .long) :: ([.fieldLink RX4 7 "ThreePrimesModel" "n" "I", .fieldLink RX4 13 "ThreePrimesModel" "a" "[I", .methodLink RX4 69 yX4_prime, .static yX4_prime, .initialized RX4, .code yX4_prime cX4_prime 1 (some .long), .constantLong RX4 60 (998244353), .constantLong RX4 62 (167772161), .constantLong RX4 64 (469762049), .methodLink RX4 85 yX4_rootOf, .instanceMethod yX4_rootOf, .selects RX4 yX4_rootOf yX4_rootOf, .code yX4_rootOf cX4_rootOf 4 (some .long), .constantLong RX4 79 (3), .methodLink RX4 81 yX4_raised, .static yX4_raised, .code yX4_raised cX4_raised 12 (some .long), .constantLong RX4 77 (2), .methodLink RX4 73 yX4_restOf, .static yX4_restOf, .code yX4_restOf cX4_restOf 6 (some .long)] ++ wsX40)
def wsX4_value_r1 : List Cond := [Cond.fieldLink RX4 7 "ThreePrimesModel" "n" "I", Cond.fieldLink RX4 36 "ThreePrimesModel" "thrown" "I", Cond.methodLink RX4 66 yX4_noPrime, Cond.static yX4_noPrime, Cond.initialized RX4, Cond.code yX4_noPrime cX4_noPrime 1 (some .boolean), Cond.methodLink RX4 88 yX4_sumOf, Cond.instanceMethod yX4_sumOf, Cond.selects RX4 yX4_sumOf yX4_sumOf, Cond.code yX4_sumOf cX4_sumOf 13 (some .long), Cond.fieldLink RX4 13 "ThreePrimesModel" "a" "[I", Cond.methodLink RX4 69 yX4_prime, Cond.static yX4_prime, Cond.code yX4_prime cX4_prime 1 (some .long), Cond.constantLong RX4 60 (998244353), Cond.constantLong RX4 62 (167772161), Cond.constantLong RX4 64 (469762049), Cond.methodLink RX4 85 yX4_rootOf, Cond.instanceMethod yX4_rootOf, Cond.selects RX4 yX4_rootOf yX4_rootOf, Cond.code yX4_rootOf cX4_rootOf 4 (some .long), Cond.constantLong RX4 79 (3), Cond.methodLink RX4 81 yX4_raised, Cond.static yX4_raised]
def wsX4_value_r2 : List Cond := [Cond.code yX4_raised cX4_raised 12 (some .long), Cond.constantLong RX4 77 (2), Cond.methodLink RX4 73 yX4_restOf, Cond.static yX4_restOf, Cond.code yX4_restOf cX4_restOf 6 (some .long)]
def wsX4_value : List Cond := .code yX4_value cX4_value 3 (some .int) :: ((wsX4_value_r1 ++ wsX4_value_r2) ++ wsX40)
def wsX4_back_r1 : List Cond := [Cond.fieldLink RX4 7 "ThreePrimesModel" "n" "I", Cond.fieldLink RX4 36 "ThreePrimesModel" "thrown" "I", Cond.constantLong RX4 77 (2), Cond.methodLink RX4 66 yX4_noPrime, Cond.static yX4_noPrime, Cond.initialized RX4, Cond.code yX4_noPrime cX4_noPrime 1 (some .boolean), Cond.methodLink RX4 69 yX4_prime, Cond.static yX4_prime, Cond.code yX4_prime cX4_prime 1 (some .long), Cond.constantLong RX4 60 (998244353), Cond.constantLong RX4 62 (167772161), Cond.constantLong RX4 64 (469762049), Cond.methodLink RX4 88 yX4_sumOf, Cond.instanceMethod yX4_sumOf, Cond.selects RX4 yX4_sumOf yX4_sumOf, Cond.code yX4_sumOf cX4_sumOf 13 (some .long), Cond.fieldLink RX4 13 "ThreePrimesModel" "a" "[I", Cond.methodLink RX4 85 yX4_rootOf, Cond.instanceMethod yX4_rootOf, Cond.selects RX4 yX4_rootOf yX4_rootOf, Cond.code yX4_rootOf cX4_rootOf 4 (some .long), Cond.constantLong RX4 79 (3), Cond.methodLink RX4 81 yX4_raised]
def wsX4_back_r2 : List Cond := [Cond.static yX4_raised, Cond.code yX4_raised cX4_raised 12 (some .long), Cond.methodLink RX4 73 yX4_restOf, Cond.static yX4_restOf, Cond.code yX4_restOf cX4_restOf 6 (some .long)]
def wsX4_back : List Cond := .code yX4_back cX4_back 5 (some .int) :: ((wsX4_back_r1 ++ wsX4_back_r2) ++ wsX40)
def wsX4_keep : List Cond := .code yX4_keep cX4_keep 2 none :: ([.fieldLink RX4 39 "ThreePrimesModel" "results" "I", .fieldLink RX4 36 "ThreePrimesModel" "thrown" "I", .fieldLink RX4 7 "ThreePrimesModel" "n" "I", .fieldLink RX4 13 "ThreePrimesModel" "a" "[I", .fieldLink RX4 20 "ThreePrimesModel" "low" "[J"] ++ wsX40)
def wsX4_product : List Cond := .code yX4_product cX4_product 6 (some .int) :: ([.fieldLink RX4 36 "ThreePrimesModel" "thrown" "I", .methodLink RX4 66 yX4_noPrime, .static yX4_noPrime, .initialized RX4, .code yX4_noPrime cX4_noPrime 1 (some .boolean), .methodLink RX4 69 yX4_prime, .static yX4_prime, .code yX4_prime cX4_prime 1 (some .long), .constantLong RX4 60 (998244353), .constantLong RX4 62 (167772161), .constantLong RX4 64 (469762049), .methodLink RX4 73 yX4_restOf, .static yX4_restOf, .code yX4_restOf cX4_restOf 6 (some .long)] ++ wsX40)
def wsX4_root : List Cond := .code yX4_root cX4_root 5 (some .int) :: ([.fieldLink RX4 36 "ThreePrimesModel" "thrown" "I", .fieldLink RX4 7 "ThreePrimesModel" "n" "I", .methodLink RX4 66 yX4_noPrime, .static yX4_noPrime, .initialized RX4, .code yX4_noPrime cX4_noPrime 1 (some .boolean), .methodLink RX4 73 yX4_restOf, .static yX4_restOf, .code yX4_restOf cX4_restOf 6 (some .long), .methodLink RX4 85 yX4_rootOf, .instanceMethod yX4_rootOf, .selects RX4 yX4_rootOf yX4_rootOf, .code yX4_rootOf cX4_rootOf 4 (some .long), .constantLong RX4 79 (3), .methodLink RX4 69 yX4_prime, .static yX4_prime, .code yX4_prime cX4_prime 1 (some .long), .constantLong RX4 60 (998244353), .constantLong RX4 62 (167772161), .constantLong RX4 64 (469762049), .methodLink RX4 81 yX4_raised, .static yX4_raised, .code yX4_raised cX4_raised 12 (some .long), .constantLong RX4 77 (2)] ++ wsX40)
def wsL_size : List Cond := .codeWith yL_size cL_size 3 (some .int) [(0, 5, 8, 13)] :: ([.classLink RL 13 "java/lang/IllegalArgumentException", .methodLink RL 7 yX3_size, .instanceMethod yX3_size, .selects RX3 yX3_size yX3_size, .initialized RX3, .code yX3_size cX3_size 3 none, .classLink RX3 45 "java/lang/IllegalArgumentException", .initialized "java/lang/IllegalArgumentException", .fieldLink RX3 9 "ThreePrimes" "levels" "I", .fieldLink RX3 20 "ThreePrimes" "results" "I", .fieldLink RX3 13 "ThreePrimes" "rowA" "[I", .fieldLink RX3 17 "ThreePrimes" "rowB" "[I", .methodLink RX3 52 yX3_places, .instanceMethod yX3_places, .selects RX3 yX3_places yX3_places, .code yX3_places cX3_places 1 (some .int)] ++ wsX30 ++ (vx_atS RX3 49 "java/lang/IllegalArgumentException" ["java/lang/RuntimeException", "java/lang/Exception"]).filter goodWord)
def wsL_setA : List Cond := .codeWith yL_setA cL_setA 5 (some .int) [(0, 10, 13, 19)] :: ([.classLink RL 19 "java/lang/IndexOutOfBoundsException", .methodLink RL 15 yX3_setA, .instanceMethod yX3_setA, .selects RX3 yX3_setA yX3_setA, .initialized RX3, .code yX3_setA cX3_setA 4 (some .int), .fieldLink RX3 13 "ThreePrimes" "rowA" "[I", .methodLink RX3 56 yX3_requirePlace, .instanceMethod yX3_requirePlace, .selects RX3 yX3_requirePlace yX3_requirePlace, .code yX3_requirePlace cX3_requirePlace 2 none, .classLink RX3 122 "java/lang/IndexOutOfBoundsException", .initialized "java/lang/IndexOutOfBoundsException", .methodLink RX3 52 yX3_places, .instanceMethod yX3_places, .selects RX3 yX3_places yX3_places, .code yX3_places cX3_places 1 (some .int), .fieldLink RX3 9 "ThreePrimes" "levels" "I"] ++ wsX30 ++ (vx_atS RX3 126 "java/lang/IndexOutOfBoundsException" ["java/lang/RuntimeException", "java/lang/Exception"]).filter goodWord)
def wsL_setB : List Cond := .codeWith yL_setB cL_setB 5 (some .int) [(0, 10, 13, 19)] :: ([.classLink RL 19 "java/lang/IndexOutOfBoundsException", .methodLink RL 21 yX3_setB, .instanceMethod yX3_setB, .selects RX3 yX3_setB yX3_setB, .initialized RX3, .code yX3_setB cX3_setB 4 (some .int), .fieldLink RX3 17 "ThreePrimes" "rowB" "[I", .methodLink RX3 56 yX3_requirePlace, .instanceMethod yX3_requirePlace, .selects RX3 yX3_requirePlace yX3_requirePlace, .code yX3_requirePlace cX3_requirePlace 2 none, .classLink RX3 122 "java/lang/IndexOutOfBoundsException", .initialized "java/lang/IndexOutOfBoundsException", .methodLink RX3 52 yX3_places, .instanceMethod yX3_places, .selects RX3 yX3_places yX3_places, .code yX3_places cX3_places 1 (some .int), .fieldLink RX3 9 "ThreePrimes" "levels" "I"] ++ wsX30 ++ (vx_atS RX3 126 "java/lang/IndexOutOfBoundsException" ["java/lang/RuntimeException", "java/lang/Exception"]).filter goodWord)
def wsL_a : List Cond := .codeWith yL_a cL_a 4 (some .int) [(0, 9, 12, 19)] :: ([.classLink RL 19 "java/lang/IndexOutOfBoundsException", .methodLink RL 24 yX3_a, .instanceMethod yX3_a, .selects RX3 yX3_a yX3_a, .initialized RX3, .code yX3_a cX3_a 2 (some .int), .fieldLink RX3 13 "ThreePrimes" "rowA" "[I", .methodLink RX3 56 yX3_requirePlace, .instanceMethod yX3_requirePlace, .selects RX3 yX3_requirePlace yX3_requirePlace, .code yX3_requirePlace cX3_requirePlace 2 none, .classLink RX3 122 "java/lang/IndexOutOfBoundsException", .initialized "java/lang/IndexOutOfBoundsException", .methodLink RX3 52 yX3_places, .instanceMethod yX3_places, .selects RX3 yX3_places yX3_places, .code yX3_places cX3_places 1 (some .int), .fieldLink RX3 9 "ThreePrimes" "levels" "I"] ++ wsX30 ++ (vx_atS RX3 126 "java/lang/IndexOutOfBoundsException" ["java/lang/RuntimeException", "java/lang/Exception"]).filter goodWord)
def wsL_b : List Cond := .codeWith yL_b cL_b 4 (some .int) [(0, 9, 12, 19)] :: ([.classLink RL 19 "java/lang/IndexOutOfBoundsException", .methodLink RL 28 yX3_b, .instanceMethod yX3_b, .selects RX3 yX3_b yX3_b, .initialized RX3, .code yX3_b cX3_b 2 (some .int), .fieldLink RX3 17 "ThreePrimes" "rowB" "[I", .methodLink RX3 56 yX3_requirePlace, .instanceMethod yX3_requirePlace, .selects RX3 yX3_requirePlace yX3_requirePlace, .code yX3_requirePlace cX3_requirePlace 2 none, .classLink RX3 122 "java/lang/IndexOutOfBoundsException", .initialized "java/lang/IndexOutOfBoundsException", .methodLink RX3 52 yX3_places, .instanceMethod yX3_places, .selects RX3 yX3_places yX3_places, .code yX3_places cX3_places 1 (some .int), .fieldLink RX3 9 "ThreePrimes" "levels" "I"] ++ wsX30 ++ (vx_atS RX3 126 "java/lang/IndexOutOfBoundsException" ["java/lang/RuntimeException", "java/lang/Exception"]).filter goodWord)
def wsL_fold_r1 : List Cond := [Cond.classLink RL 13 "java/lang/IllegalArgumentException", Cond.methodLink RL 31 yX3_fold, Cond.instanceMethod yX3_fold, Cond.selects RX3 yX3_fold yX3_fold, Cond.initialized RX3, Cond.code yX3_fold cX3_fold 2 (some .int), Cond.classLink RX3 45 "java/lang/IllegalArgumentException", Cond.initialized "java/lang/IllegalArgumentException", Cond.fieldLink RX3 35 "ThreePrimes" "folder" "LThreePrimes$Folder;", Cond.fieldLink RX3 13 "ThreePrimes" "rowA" "[I", Cond.fieldLink RX3 17 "ThreePrimes" "rowB" "[I", Cond.fieldLink RX3 9 "ThreePrimes" "levels" "I", Cond.fieldLink RX3 28 "ThreePrimes" "sums" "LThreePrimes$Sums;", Cond.fieldLink RX3 20 "ThreePrimes" "results" "I", Cond.methodLink RX3 61 yX0_foldRows, Cond.instanceMethod yX0_foldRows, Cond.selects RX0 yX0_foldRows yX0_foldRows, Cond.initialized RX0, Cond.code yX0_foldRows cX0_foldRows 10 none, Cond.fieldLink RX0 9 "ThreePrimes$Folder" "left" "[J", Cond.fieldLink RX0 15 "ThreePrimes$Folder" "right" "[J", Cond.methodLink RX0 25 yX0_loadRemainders, Cond.instanceMethod yX0_loadRemainders, Cond.selects RX0 yX0_loadRemainders yX0_loadRemainders]
def wsL_fold_r2 : List Cond := [Cond.code yX0_loadRemainders cX0_loadRemainders 6 none, Cond.methodLink RX0 40 yX1_remainder, Cond.static yX1_remainder, Cond.initialized RX1, Cond.code yX1_remainder cX1_remainder 5 (some .long), Cond.methodLink RX0 29 yX0_foldRoundModulo, Cond.instanceMethod yX0_foldRoundModulo, Cond.selects RX0 yX0_foldRoundModulo yX0_foldRoundModulo, Cond.code yX0_foldRoundModulo cX0_foldRoundModulo 7 none, Cond.methodLink RX0 52 yX1_rootOfOne, Cond.static yX1_rootOfOne, Cond.code yX1_rootOfOne cX1_rootOfOne 2 (some .long), Cond.constantLong RX1 13 (3), Cond.methodLink RX1 7 yX1_raise, Cond.static yX1_raise, Cond.code yX1_raise cX1_raise 9 (some .long), Cond.methodLink RX0 56 yX0_listRootPowers, Cond.instanceMethod yX0_listRootPowers, Cond.selects RX0 yX0_listRootPowers yX0_listRootPowers, Cond.code yX0_listRootPowers cX0_listRootPowers 6 none, Cond.fieldLink RX0 18 "ThreePrimes$Folder" "rootPowers" "[J", Cond.methodLink RX0 60 yX0_turnIntoValues, Cond.instanceMethod yX0_turnIntoValues, Cond.selects RX0 yX0_turnIntoValues yX0_turnIntoValues]
def wsL_fold_r3 : List Cond := [Cond.code yX0_turnIntoValues cX0_turnIntoValues 8 none, Cond.methodLink RX0 70 yX0_splitBlock, Cond.instanceMethod yX0_splitBlock, Cond.selects RX0 yX0_splitBlock yX0_splitBlock, Cond.code yX0_splitBlock cX0_splitBlock 13 none, Cond.methodLink RX0 64 yX1_inverse, Cond.static yX1_inverse, Cond.code yX1_inverse cX1_inverse 3 (some .long), Cond.methodLink RX0 67 yX0_turnBack, Cond.instanceMethod yX0_turnBack, Cond.selects RX0 yX0_turnBack yX0_turnBack, Cond.code yX0_turnBack cX0_turnBack 8 none, Cond.methodLink RX0 74 yX0_joinBlock, Cond.instanceMethod yX0_joinBlock, Cond.selects RX0 yX0_joinBlock yX0_joinBlock, Cond.code yX0_joinBlock cX0_joinBlock 15 none, Cond.methodLink RX0 33 yX0_takeAwayUpperHalf, Cond.instanceMethod yX0_takeAwayUpperHalf, Cond.selects RX0 yX0_takeAwayUpperHalf yX0_takeAwayUpperHalf, Cond.code yX0_takeAwayUpperHalf cX0_takeAwayUpperHalf 4 none, Cond.methodLink RX0 36 yX0_storeRemainders, Cond.instanceMethod yX0_storeRemainders, Cond.selects RX0 yX0_storeRemainders yX0_storeRemainders, Cond.code yX0_storeRemainders cX0_storeRemainders 5 none]
def wsL_fold_r4 : List Cond := [Cond.methodLink RX0 46 yX2_setRemainder, Cond.instanceMethod yX2_setRemainder, Cond.selects RX2 yX2_setRemainder yX2_setRemainder, Cond.initialized RX2, Cond.code yX2_setRemainder cX2_setRemainder 5 none, Cond.fieldLink RX2 15 "ThreePrimes$Sums" "remainders" "[[I", Cond.methodLink RX3 52 yX3_places, Cond.instanceMethod yX3_places, Cond.selects RX3 yX3_places yX3_places, Cond.code yX3_places cX3_places 1 (some .int)]
def wsL_fold : List Cond := .codeWith yL_fold cL_fold 4 (some .int) [(0, 9, 12, 13)] :: ((wsL_fold_r1 ++ (wsL_fold_r2 ++ (wsL_fold_r3 ++ wsL_fold_r4))) ++ wsX30 ++ wsX00 ++ wsX20 ++ (vx_atS RX3 49 "java/lang/IllegalArgumentException" ["java/lang/RuntimeException", "java/lang/Exception"]).filter goodWord)
def wsL_power_r1 : List Cond := [Cond.classLink RL 13 "java/lang/IllegalArgumentException", Cond.methodLink RL 34 yX3_power, Cond.instanceMethod yX3_power, Cond.selects RX3 yX3_power yX3_power, Cond.initialized RX3, Cond.code yX3_power cX3_power 4 (some .int), Cond.classLink RX3 45 "java/lang/IllegalArgumentException", Cond.initialized "java/lang/IllegalArgumentException", Cond.fieldLink RX3 13 "ThreePrimes" "rowA" "[I", Cond.fieldLink RX3 42 "ThreePrimes" "powerBase" "[I", Cond.methodLink RX3 67 arraycopyName, Cond.native arraycopyName, Cond.static arraycopyName, Cond.initialized "java/lang/System", Cond.methodLink RX3 52 yX3_places, Cond.instanceMethod yX3_places, Cond.selects RX3 yX3_places yX3_places, Cond.code yX3_places cX3_places 1 (some .int), Cond.fieldLink RX3 9 "ThreePrimes" "levels" "I", Cond.methodLink RX3 73 yX3_foldRowAWith, Cond.instanceMethod yX3_foldRowAWith, Cond.selects RX3 yX3_foldRowAWith yX3_foldRowAWith, Cond.code yX3_foldRowAWith cX3_foldRowAWith 2 none, Cond.fieldLink RX3 35 "ThreePrimes" "folder" "LThreePrimes$Folder;"]
def wsL_power_r2 : List Cond := [Cond.fieldLink RX3 39 "ThreePrimes" "powerSums" "LThreePrimes$Sums;", Cond.methodLink RX3 61 yX0_foldRows, Cond.instanceMethod yX0_foldRows, Cond.selects RX0 yX0_foldRows yX0_foldRows, Cond.initialized RX0, Cond.code yX0_foldRows cX0_foldRows 10 none, Cond.fieldLink RX0 9 "ThreePrimes$Folder" "left" "[J", Cond.fieldLink RX0 15 "ThreePrimes$Folder" "right" "[J", Cond.methodLink RX0 25 yX0_loadRemainders, Cond.instanceMethod yX0_loadRemainders, Cond.selects RX0 yX0_loadRemainders yX0_loadRemainders, Cond.code yX0_loadRemainders cX0_loadRemainders 6 none, Cond.methodLink RX0 40 yX1_remainder, Cond.static yX1_remainder, Cond.initialized RX1, Cond.code yX1_remainder cX1_remainder 5 (some .long), Cond.methodLink RX0 29 yX0_foldRoundModulo, Cond.instanceMethod yX0_foldRoundModulo, Cond.selects RX0 yX0_foldRoundModulo yX0_foldRoundModulo, Cond.code yX0_foldRoundModulo cX0_foldRoundModulo 7 none, Cond.methodLink RX0 52 yX1_rootOfOne, Cond.static yX1_rootOfOne, Cond.code yX1_rootOfOne cX1_rootOfOne 2 (some .long), Cond.constantLong RX1 13 (3)]
def wsL_power_r3 : List Cond := [Cond.methodLink RX1 7 yX1_raise, Cond.static yX1_raise, Cond.code yX1_raise cX1_raise 9 (some .long), Cond.methodLink RX0 56 yX0_listRootPowers, Cond.instanceMethod yX0_listRootPowers, Cond.selects RX0 yX0_listRootPowers yX0_listRootPowers, Cond.code yX0_listRootPowers cX0_listRootPowers 6 none, Cond.fieldLink RX0 18 "ThreePrimes$Folder" "rootPowers" "[J", Cond.methodLink RX0 60 yX0_turnIntoValues, Cond.instanceMethod yX0_turnIntoValues, Cond.selects RX0 yX0_turnIntoValues yX0_turnIntoValues, Cond.code yX0_turnIntoValues cX0_turnIntoValues 8 none, Cond.methodLink RX0 70 yX0_splitBlock, Cond.instanceMethod yX0_splitBlock, Cond.selects RX0 yX0_splitBlock yX0_splitBlock, Cond.code yX0_splitBlock cX0_splitBlock 13 none, Cond.methodLink RX0 64 yX1_inverse, Cond.static yX1_inverse, Cond.code yX1_inverse cX1_inverse 3 (some .long), Cond.methodLink RX0 67 yX0_turnBack, Cond.instanceMethod yX0_turnBack, Cond.selects RX0 yX0_turnBack yX0_turnBack, Cond.code yX0_turnBack cX0_turnBack 8 none, Cond.methodLink RX0 74 yX0_joinBlock]
def wsL_power_r4 : List Cond := [Cond.instanceMethod yX0_joinBlock, Cond.selects RX0 yX0_joinBlock yX0_joinBlock, Cond.code yX0_joinBlock cX0_joinBlock 15 none, Cond.methodLink RX0 33 yX0_takeAwayUpperHalf, Cond.instanceMethod yX0_takeAwayUpperHalf, Cond.selects RX0 yX0_takeAwayUpperHalf yX0_takeAwayUpperHalf, Cond.code yX0_takeAwayUpperHalf cX0_takeAwayUpperHalf 4 none, Cond.methodLink RX0 36 yX0_storeRemainders, Cond.instanceMethod yX0_storeRemainders, Cond.selects RX0 yX0_storeRemainders yX0_storeRemainders, Cond.code yX0_storeRemainders cX0_storeRemainders 5 none, Cond.methodLink RX0 46 yX2_setRemainder, Cond.instanceMethod yX2_setRemainder, Cond.selects RX2 yX2_setRemainder yX2_setRemainder, Cond.initialized RX2, Cond.code yX2_setRemainder cX2_setRemainder 5 none, Cond.fieldLink RX2 15 "ThreePrimes$Sums" "remainders" "[[I", Cond.methodLink RX3 116 yX2_cutInto, Cond.instanceMethod yX2_cutInto, Cond.selects RX2 yX2_cutInto yX2_cutInto, Cond.code yX2_cutInto cX2_cutInto 4 none, Cond.methodLink RX2 20 yX2_lowest64Bits, Cond.instanceMethod yX2_lowest64Bits, Cond.selects RX2 yX2_lowest64Bits yX2_lowest64Bits]
def wsL_power_r5 : List Cond := [Cond.code yX2_lowest64Bits cX2_lowest64Bits 4 (some .long), Cond.constantLong RX2 27 (167477612308856833), Cond.methodLink RX2 24 yX2_moduloFirstTwo, Cond.instanceMethod yX2_moduloFirstTwo, Cond.selects RX2 yX2_moduloFirstTwo yX2_moduloFirstTwo, Cond.code yX2_moduloFirstTwo cX2_moduloFirstTwo 6 (some .long), Cond.constantLong RX2 37 (998244353), Cond.constantLong RX2 39 (47450712), Cond.constant RX2 41 (167772161), Cond.methodLink RX2 42 yX1_remainder, Cond.methodLink RX2 29 yX2_timesOfFirstTwo, Cond.instanceMethod yX2_timesOfFirstTwo, Cond.selects RX2 yX2_timesOfFirstTwo yX2_timesOfFirstTwo, Cond.code yX2_timesOfFirstTwo cX2_timesOfFirstTwo 8 (some .long), Cond.constantLong RX2 48 (469762049), Cond.constantLong RX2 50 (115990628), Cond.constant RX2 52 (469762049), Cond.constantLong RX2 53 (234881024)]
def wsL_power : List Cond := .codeWith yL_power cL_power 4 (some .int) [(0, 9, 12, 13)] :: ((wsL_power_r1 ++ (wsL_power_r2 ++ (wsL_power_r3 ++ (wsL_power_r4 ++ wsL_power_r5)))) ++ wsX30 ++ wsX00 ++ wsX20 ++ (vx_atS RX3 49 "java/lang/IllegalArgumentException" ["java/lang/RuntimeException", "java/lang/Exception"]).filter goodWord)
def wsL_low_r1 : List Cond := [Cond.classLink RL 19 "java/lang/IndexOutOfBoundsException", Cond.methodLink RL 37 yX3_low, Cond.instanceMethod yX3_low, Cond.selects RX3 yX3_low yX3_low, Cond.initialized RX3, Cond.code yX3_low cX3_low 2 (some .long), Cond.fieldLink RX3 28 "ThreePrimes" "sums" "LThreePrimes$Sums;", Cond.methodLink RX3 77 yX3_requireResult, Cond.instanceMethod yX3_requireResult, Cond.selects RX3 yX3_requireResult yX3_requireResult, Cond.code yX3_requireResult cX3_requireResult 2 none, Cond.classLink RX3 122 "java/lang/IndexOutOfBoundsException", Cond.initialized "java/lang/IndexOutOfBoundsException", Cond.fieldLink RX3 20 "ThreePrimes" "results" "I", Cond.methodLink RX3 80 yX2_lowest64Bits, Cond.instanceMethod yX2_lowest64Bits, Cond.selects RX2 yX2_lowest64Bits yX2_lowest64Bits, Cond.initialized RX2, Cond.code yX2_lowest64Bits cX2_lowest64Bits 4 (some .long), Cond.constantLong RX2 27 (167477612308856833), Cond.methodLink RX2 24 yX2_moduloFirstTwo, Cond.instanceMethod yX2_moduloFirstTwo, Cond.selects RX2 yX2_moduloFirstTwo yX2_moduloFirstTwo, Cond.code yX2_moduloFirstTwo cX2_moduloFirstTwo 6 (some .long)]
def wsL_low_r2 : List Cond := [Cond.fieldLink RX2 15 "ThreePrimes$Sums" "remainders" "[[I", Cond.constantLong RX2 37 (998244353), Cond.constantLong RX2 39 (47450712), Cond.constant RX2 41 (167772161), Cond.methodLink RX2 42 yX1_remainder, Cond.static yX1_remainder, Cond.initialized RX1, Cond.code yX1_remainder cX1_remainder 5 (some .long), Cond.methodLink RX2 29 yX2_timesOfFirstTwo, Cond.instanceMethod yX2_timesOfFirstTwo, Cond.selects RX2 yX2_timesOfFirstTwo yX2_timesOfFirstTwo, Cond.code yX2_timesOfFirstTwo cX2_timesOfFirstTwo 8 (some .long), Cond.constantLong RX2 48 (469762049), Cond.constantLong RX2 50 (115990628), Cond.constant RX2 52 (469762049), Cond.constantLong RX2 53 (234881024)]
def wsL_low : List Cond := .codeWith yL_low cL_low 4 (some .int) [(0, 8, 11, 19)] :: ((wsL_low_r1 ++ wsL_low_r2) ++ wsX30 ++ wsX20 ++ (vx_atS RX3 126 "java/lang/IndexOutOfBoundsException" ["java/lang/RuntimeException", "java/lang/Exception"]).filter goodWord)
def wsL_high_r1 : List Cond := [Cond.classLink RL 19 "java/lang/IndexOutOfBoundsException", Cond.methodLink RL 41 yX3_high, Cond.instanceMethod yX3_high, Cond.selects RX3 yX3_high yX3_high, Cond.initialized RX3, Cond.code yX3_high cX3_high 2 (some .int), Cond.fieldLink RX3 28 "ThreePrimes" "sums" "LThreePrimes$Sums;", Cond.methodLink RX3 77 yX3_requireResult, Cond.instanceMethod yX3_requireResult, Cond.selects RX3 yX3_requireResult yX3_requireResult, Cond.code yX3_requireResult cX3_requireResult 2 none, Cond.classLink RX3 122 "java/lang/IndexOutOfBoundsException", Cond.initialized "java/lang/IndexOutOfBoundsException", Cond.fieldLink RX3 20 "ThreePrimes" "results" "I", Cond.methodLink RX3 84 yX2_bitsAbove64, Cond.instanceMethod yX2_bitsAbove64, Cond.selects RX2 yX2_bitsAbove64 yX2_bitsAbove64, Cond.initialized RX2, Cond.code yX2_bitsAbove64 cX2_bitsAbove64 10 (some .int), Cond.constantLong RX2 33 (1166016513), Cond.constantLong RX2 35 (38993920), Cond.methodLink RX2 24 yX2_moduloFirstTwo, Cond.instanceMethod yX2_moduloFirstTwo, Cond.selects RX2 yX2_moduloFirstTwo yX2_moduloFirstTwo]
def wsL_high_r2 : List Cond := [Cond.code yX2_moduloFirstTwo cX2_moduloFirstTwo 6 (some .long), Cond.fieldLink RX2 15 "ThreePrimes$Sums" "remainders" "[[I", Cond.constantLong RX2 37 (998244353), Cond.constantLong RX2 39 (47450712), Cond.constant RX2 41 (167772161), Cond.methodLink RX2 42 yX1_remainder, Cond.static yX1_remainder, Cond.initialized RX1, Cond.code yX1_remainder cX1_remainder 5 (some .long), Cond.methodLink RX2 29 yX2_timesOfFirstTwo, Cond.instanceMethod yX2_timesOfFirstTwo, Cond.selects RX2 yX2_timesOfFirstTwo yX2_timesOfFirstTwo, Cond.code yX2_timesOfFirstTwo cX2_timesOfFirstTwo 8 (some .long), Cond.constantLong RX2 48 (469762049), Cond.constantLong RX2 50 (115990628), Cond.constant RX2 52 (469762049), Cond.constantLong RX2 53 (234881024)]
def wsL_high : List Cond := .codeWith yL_high cL_high 4 (some .int) [(0, 9, 12, 19)] :: ((wsL_high_r1 ++ wsL_high_r2) ++ wsX30 ++ wsX20 ++ (vx_atS RX3 126 "java/lang/IndexOutOfBoundsException" ["java/lang/RuntimeException", "java/lang/Exception"]).filter goodWord)
def wsL_rest_r1 : List Cond := [Cond.classLink RL 13 "java/lang/IllegalArgumentException", Cond.classLink RL 19 "java/lang/IndexOutOfBoundsException", Cond.methodLink RL 44 yX3_rest, Cond.instanceMethod yX3_rest, Cond.selects RX3 yX3_rest yX3_rest, Cond.initialized RX3, Cond.code yX3_rest cX3_rest 3 (some .int), Cond.fieldLink RX3 28 "ThreePrimes" "sums" "LThreePrimes$Sums;", Cond.methodLink RX3 88 yX3_requirePrime, Cond.instanceMethod yX3_requirePrime, Cond.selects RX3 yX3_requirePrime yX3_requirePrime, Cond.code yX3_requirePrime cX3_requirePrime 2 none, Cond.classLink RX3 45 "java/lang/IllegalArgumentException", Cond.initialized "java/lang/IllegalArgumentException", Cond.fieldLink RX3 99 "ThreePrimes" "PRIMES" "[I", Cond.methodLink RX3 77 yX3_requireResult, Cond.instanceMethod yX3_requireResult, Cond.selects RX3 yX3_requireResult yX3_requireResult, Cond.code yX3_requireResult cX3_requireResult 2 none, Cond.classLink RX3 122 "java/lang/IndexOutOfBoundsException", Cond.initialized "java/lang/IndexOutOfBoundsException", Cond.fieldLink RX3 20 "ThreePrimes" "results" "I", Cond.methodLink RX3 91 yX2_remainder, Cond.instanceMethod yX2_remainder]
def wsL_rest_r2 : List Cond := [Cond.selects RX2 yX2_remainder yX2_remainder, Cond.initialized RX2, Cond.code yX2_remainder cX2_remainder 3 (some .int), Cond.fieldLink RX2 15 "ThreePrimes$Sums" "remainders" "[[I"]
def wsL_rest : List Cond := .codeWith yL_rest cL_rest 5 (some .int) [(0, 10, 13, 13), (0, 10, 17, 19)] :: ((wsL_rest_r1 ++ wsL_rest_r2) ++ wsX30 ++ wsX20 ++ (vx_atS RX3 49 "java/lang/IllegalArgumentException" ["java/lang/RuntimeException", "java/lang/Exception"]).filter goodWord ++ (vx_atS RX3 126 "java/lang/IndexOutOfBoundsException" ["java/lang/RuntimeException", "java/lang/Exception"]).filter goodWord)
def wsL_value_r1 : List Cond := [Cond.classLink RL 13 "java/lang/IllegalArgumentException", Cond.classLink RL 19 "java/lang/IndexOutOfBoundsException", Cond.methodLink RL 47 yX3_value, Cond.instanceMethod yX3_value, Cond.selects RX3 yX3_value yX3_value, Cond.initialized RX3, Cond.code yX3_value cX3_value 3 (some .int), Cond.fieldLink RX3 99 "ThreePrimes" "PRIMES" "[I", Cond.methodLink RX3 88 yX3_requirePrime, Cond.instanceMethod yX3_requirePrime, Cond.selects RX3 yX3_requirePrime yX3_requirePrime, Cond.code yX3_requirePrime cX3_requirePrime 2 none, Cond.classLink RX3 45 "java/lang/IllegalArgumentException", Cond.initialized "java/lang/IllegalArgumentException", Cond.methodLink RX3 56 yX3_requirePlace, Cond.instanceMethod yX3_requirePlace, Cond.selects RX3 yX3_requirePlace yX3_requirePlace, Cond.code yX3_requirePlace cX3_requirePlace 2 none, Cond.classLink RX3 122 "java/lang/IndexOutOfBoundsException", Cond.initialized "java/lang/IndexOutOfBoundsException", Cond.methodLink RX3 52 yX3_places, Cond.instanceMethod yX3_places, Cond.selects RX3 yX3_places yX3_places, Cond.code yX3_places cX3_places 1 (some .int)]
def wsL_value_r2 : List Cond := [Cond.fieldLink RX3 9 "ThreePrimes" "levels" "I", Cond.methodLink RX3 95 yX3_rootToThe, Cond.instanceMethod yX3_rootToThe, Cond.selects RX3 yX3_rootToThe yX3_rootToThe, Cond.code yX3_rootToThe cX3_rootToThe 4 (some .long), Cond.methodLink RX3 131 yX1_rootOfOne, Cond.static yX1_rootOfOne, Cond.initialized RX1, Cond.code yX1_rootOfOne cX1_rootOfOne 2 (some .long), Cond.constantLong RX1 13 (3), Cond.methodLink RX1 7 yX1_raise, Cond.static yX1_raise, Cond.code yX1_raise cX1_raise 9 (some .long), Cond.methodLink RX3 134 yX1_raise, Cond.methodLink RX3 102 yX3_rowAAt, Cond.instanceMethod yX3_rowAAt, Cond.selects RX3 yX3_rowAAt yX3_rowAAt, Cond.code yX3_rowAAt cX3_rowAAt 7 (some .long), Cond.fieldLink RX3 13 "ThreePrimes" "rowA" "[I", Cond.methodLink RX3 120 yX1_remainder, Cond.static yX1_remainder, Cond.code yX1_remainder cX1_remainder 5 (some .long)]
def wsL_value : List Cond := .codeWith yL_value cL_value 5 (some .int) [(0, 10, 13, 13), (0, 10, 17, 19)] :: ((wsL_value_r1 ++ wsL_value_r2) ++ wsX30 ++ (vx_atS RX3 49 "java/lang/IllegalArgumentException" ["java/lang/RuntimeException", "java/lang/Exception"]).filter goodWord ++ (vx_atS RX3 126 "java/lang/IndexOutOfBoundsException" ["java/lang/RuntimeException", "java/lang/Exception"]).filter goodWord)
def wsL_back_r1 : List Cond := [Cond.classLink RL 13 "java/lang/IllegalArgumentException", Cond.classLink RL 19 "java/lang/IndexOutOfBoundsException", Cond.methodLink RL 50 yX3_back, Cond.instanceMethod yX3_back, Cond.selects RX3 yX3_back yX3_back, Cond.initialized RX3, Cond.code yX3_back cX3_back 4 (some .int), Cond.fieldLink RX3 99 "ThreePrimes" "PRIMES" "[I", Cond.methodLink RX3 88 yX3_requirePrime, Cond.instanceMethod yX3_requirePrime, Cond.selects RX3 yX3_requirePrime yX3_requirePrime, Cond.code yX3_requirePrime cX3_requirePrime 2 none, Cond.classLink RX3 45 "java/lang/IllegalArgumentException", Cond.initialized "java/lang/IllegalArgumentException", Cond.methodLink RX3 56 yX3_requirePlace, Cond.instanceMethod yX3_requirePlace, Cond.selects RX3 yX3_requirePlace yX3_requirePlace, Cond.code yX3_requirePlace cX3_requirePlace 2 none, Cond.classLink RX3 122 "java/lang/IndexOutOfBoundsException", Cond.initialized "java/lang/IndexOutOfBoundsException", Cond.methodLink RX3 52 yX3_places, Cond.instanceMethod yX3_places, Cond.selects RX3 yX3_places yX3_places, Cond.code yX3_places cX3_places 1 (some .int)]
def wsL_back_r2 : List Cond := [Cond.fieldLink RX3 9 "ThreePrimes" "levels" "I", Cond.methodLink RX3 95 yX3_rootToThe, Cond.instanceMethod yX3_rootToThe, Cond.selects RX3 yX3_rootToThe yX3_rootToThe, Cond.code yX3_rootToThe cX3_rootToThe 4 (some .long), Cond.methodLink RX3 131 yX1_rootOfOne, Cond.static yX1_rootOfOne, Cond.initialized RX1, Cond.code yX1_rootOfOne cX1_rootOfOne 2 (some .long), Cond.constantLong RX1 13 (3), Cond.methodLink RX1 7 yX1_raise, Cond.static yX1_raise, Cond.code yX1_raise cX1_raise 9 (some .long), Cond.methodLink RX3 134 yX1_raise, Cond.methodLink RX3 102 yX3_rowAAt, Cond.instanceMethod yX3_rowAAt, Cond.selects RX3 yX3_rowAAt yX3_rowAAt, Cond.code yX3_rowAAt cX3_rowAAt 7 (some .long), Cond.fieldLink RX3 13 "ThreePrimes" "rowA" "[I", Cond.methodLink RX3 120 yX1_remainder, Cond.static yX1_remainder, Cond.code yX1_remainder cX1_remainder 5 (some .long), Cond.methodLink RX3 106 yX1_inverse, Cond.static yX1_inverse]
def wsL_back_r3 : List Cond := [Cond.code yX1_inverse cX1_inverse 3 (some .long)]
def wsL_back : List Cond := .codeWith yL_back cL_back 5 (some .int) [(0, 10, 13, 13), (0, 10, 17, 19)] :: ((wsL_back_r1 ++ (wsL_back_r2 ++ wsL_back_r3)) ++ wsX30 ++ (vx_atS RX3 49 "java/lang/IllegalArgumentException" ["java/lang/RuntimeException", "java/lang/Exception"]).filter goodWord ++ (vx_atS RX3 126 "java/lang/IndexOutOfBoundsException" ["java/lang/RuntimeException", "java/lang/Exception"]).filter goodWord)
def wsL_keep_r1 : List Cond := [Cond.classLink RL 56 "java/lang/IllegalStateException", Cond.methodLink RL 53 yX3_keep, Cond.instanceMethod yX3_keep, Cond.selects RX3 yX3_keep yX3_keep, Cond.initialized RX3, Cond.code yX3_keep cX3_keep 1 none, Cond.classLink RX3 111 "java/lang/IllegalStateException", Cond.initialized "java/lang/IllegalStateException", Cond.fieldLink RX3 20 "ThreePrimes" "results" "I", Cond.fieldLink RX3 28 "ThreePrimes" "sums" "LThreePrimes$Sums;", Cond.fieldLink RX3 13 "ThreePrimes" "rowA" "[I", Cond.methodLink RX3 52 yX3_places, Cond.instanceMethod yX3_places, Cond.selects RX3 yX3_places yX3_places, Cond.code yX3_places cX3_places 1 (some .int), Cond.fieldLink RX3 9 "ThreePrimes" "levels" "I", Cond.methodLink RX3 116 yX2_cutInto, Cond.instanceMethod yX2_cutInto, Cond.selects RX2 yX2_cutInto yX2_cutInto, Cond.initialized RX2, Cond.code yX2_cutInto cX2_cutInto 4 none, Cond.methodLink RX2 20 yX2_lowest64Bits, Cond.instanceMethod yX2_lowest64Bits, Cond.selects RX2 yX2_lowest64Bits yX2_lowest64Bits]
def wsL_keep_r2 : List Cond := [Cond.code yX2_lowest64Bits cX2_lowest64Bits 4 (some .long), Cond.constantLong RX2 27 (167477612308856833), Cond.methodLink RX2 24 yX2_moduloFirstTwo, Cond.instanceMethod yX2_moduloFirstTwo, Cond.selects RX2 yX2_moduloFirstTwo yX2_moduloFirstTwo, Cond.code yX2_moduloFirstTwo cX2_moduloFirstTwo 6 (some .long), Cond.fieldLink RX2 15 "ThreePrimes$Sums" "remainders" "[[I", Cond.constantLong RX2 37 (998244353), Cond.constantLong RX2 39 (47450712), Cond.constant RX2 41 (167772161), Cond.methodLink RX2 42 yX1_remainder, Cond.static yX1_remainder, Cond.initialized RX1, Cond.code yX1_remainder cX1_remainder 5 (some .long), Cond.methodLink RX2 29 yX2_timesOfFirstTwo, Cond.instanceMethod yX2_timesOfFirstTwo, Cond.selects RX2 yX2_timesOfFirstTwo yX2_timesOfFirstTwo, Cond.code yX2_timesOfFirstTwo cX2_timesOfFirstTwo 8 (some .long), Cond.constantLong RX2 48 (469762049), Cond.constantLong RX2 50 (115990628), Cond.constant RX2 52 (469762049), Cond.constantLong RX2 53 (234881024)]
def wsL_keep : List Cond := .codeWith yL_keep cL_keep 2 (some .int) [(0, 4, 7, 56)] :: ((wsL_keep_r1 ++ wsL_keep_r2) ++ wsX30 ++ wsX20 ++ (vx_atS RX3 115 "java/lang/IllegalStateException" ["java/lang/RuntimeException", "java/lang/Exception"]).filter goodWord)
def wsL_product : List Cond := .codeWith yL_product cL_product 6 (some .int) [(0, 12, 15, 13)] :: ([.classLink RL 13 "java/lang/IllegalArgumentException", .methodLink RL 58 yX3_product, .instanceMethod yX3_product, .selects RX3 yX3_product yX3_product, .initialized RX3, .code yX3_product cX3_product 4 (some .int), .fieldLink RX3 99 "ThreePrimes" "PRIMES" "[I", .methodLink RX3 88 yX3_requirePrime, .instanceMethod yX3_requirePrime, .selects RX3 yX3_requirePrime yX3_requirePrime, .code yX3_requirePrime cX3_requirePrime 2 none, .classLink RX3 45 "java/lang/IllegalArgumentException", .initialized "java/lang/IllegalArgumentException", .methodLink RX3 120 yX1_remainder, .static yX1_remainder, .initialized RX1, .code yX1_remainder cX1_remainder 5 (some .long)] ++ (vx_atS RX3 49 "java/lang/IllegalArgumentException" ["java/lang/RuntimeException", "java/lang/Exception"]).filter goodWord)
def wsL_root_r1 : List Cond := [Cond.classLink RL 13 "java/lang/IllegalArgumentException", Cond.methodLink RL 62 yX3_root, Cond.instanceMethod yX3_root, Cond.selects RX3 yX3_root yX3_root, Cond.initialized RX3, Cond.code yX3_root cX3_root 3 (some .int), Cond.methodLink RX3 88 yX3_requirePrime, Cond.instanceMethod yX3_requirePrime, Cond.selects RX3 yX3_requirePrime yX3_requirePrime, Cond.code yX3_requirePrime cX3_requirePrime 2 none, Cond.classLink RX3 45 "java/lang/IllegalArgumentException", Cond.initialized "java/lang/IllegalArgumentException", Cond.fieldLink RX3 99 "ThreePrimes" "PRIMES" "[I", Cond.methodLink RX3 95 yX3_rootToThe, Cond.instanceMethod yX3_rootToThe, Cond.selects RX3 yX3_rootToThe yX3_rootToThe, Cond.code yX3_rootToThe cX3_rootToThe 4 (some .long), Cond.fieldLink RX3 9 "ThreePrimes" "levels" "I", Cond.methodLink RX3 131 yX1_rootOfOne, Cond.static yX1_rootOfOne, Cond.initialized RX1, Cond.code yX1_rootOfOne cX1_rootOfOne 2 (some .long), Cond.constantLong RX1 13 (3), Cond.methodLink RX1 7 yX1_raise]
def wsL_root_r2 : List Cond := [Cond.static yX1_raise, Cond.code yX1_raise cX1_raise 9 (some .long), Cond.methodLink RX3 52 yX3_places, Cond.instanceMethod yX3_places, Cond.selects RX3 yX3_places yX3_places, Cond.code yX3_places cX3_places 1 (some .int), Cond.methodLink RX3 134 yX1_raise]
def wsL_root : List Cond := .codeWith yL_root cL_root 5 (some .int) [(0, 10, 13, 13)] :: ((wsL_root_r1 ++ wsL_root_r2) ++ wsX30 ++ (vx_atS RX3 49 "java/lang/IllegalArgumentException" ["java/lang/RuntimeException", "java/lang/Exception"]).filter goodWord)
def wsL_law0_r1 : List Cond := [Cond.classLink RL 8 RX3, Cond.instantiable RX3 8, Cond.initialized RX3, Cond.classLink RL 66 RX4, Cond.instantiable RX4 10, Cond.initialized RX4, Cond.arrayClass .long, Cond.methodLink RL 65 yX3_init, Cond.instanceMethod yX3_init, Cond.code yX3_init cX3_init 1 none, Cond.methodLink RX3 3 objectInit, Cond.instanceMethod objectInit, Cond.code objectInit ⟨#[0xb1]⟩ 1 none, Cond.fieldLink RX3 9 "ThreePrimes" "levels" "I", Cond.arrayClass .int, Cond.fieldLink RX3 13 "ThreePrimes" "rowA" "[I", Cond.fieldLink RX3 17 "ThreePrimes" "rowB" "[I", Cond.fieldLink RX3 20 "ThreePrimes" "results" "I", Cond.classLink RX3 23 RX2, Cond.instantiable RX2 1, Cond.initialized RX2, Cond.fieldLink RX3 28 "ThreePrimes" "sums" "LThreePrimes$Sums;", Cond.classLink RX3 32 RX0, Cond.instantiable RX0 3]
def wsL_law0_r2 : List Cond := [Cond.initialized RX0, Cond.fieldLink RX3 35 "ThreePrimes" "folder" "LThreePrimes$Folder;", Cond.fieldLink RX3 39 "ThreePrimes" "powerSums" "LThreePrimes$Sums;", Cond.fieldLink RX3 42 "ThreePrimes" "powerBase" "[I", Cond.methodLink RX3 25 yX2_init, Cond.instanceMethod yX2_init, Cond.code yX2_init cX2_init 2 none, Cond.methodLink RX2 3 objectInit, Cond.classLink RX2 13 "[[I", Cond.fieldLink RX2 15 "ThreePrimes$Sums" "remainders" "[[I", Cond.methodLink RX3 34 yX0_init, Cond.instanceMethod yX0_init, Cond.code yX0_init cX0_init 2 none, Cond.methodLink RX0 3 objectInit, Cond.fieldLink RX0 9 "ThreePrimes$Folder" "left" "[J", Cond.fieldLink RX0 15 "ThreePrimes$Folder" "right" "[J", Cond.fieldLink RX0 18 "ThreePrimes$Folder" "rootPowers" "[J", Cond.methodLink RL 68 yX4_init, Cond.instanceMethod yX4_init, Cond.code yX4_init cX4_init 1 none, Cond.methodLink RX4 1 objectInit, Cond.fieldLink RX4 7 "ThreePrimesModel" "n" "I", Cond.fieldLink RX4 13 "ThreePrimesModel" "a" "[I", Cond.fieldLink RX4 17 "ThreePrimesModel" "b" "[I"]
def wsL_law0_r3 : List Cond := [Cond.fieldLink RX4 20 "ThreePrimesModel" "low" "[J", Cond.fieldLink RX4 24 "ThreePrimesModel" "high" "[J", Cond.fieldLink RX4 27 "ThreePrimesModel" "kept" "[I", Cond.fieldLink RX4 30 "ThreePrimesModel" "other" "[I", Cond.fieldLink RX4 33 "ThreePrimesModel" "sums" "[I", Cond.methodLink RL 69 yL_size, Cond.static yL_size, Cond.initialized RL, Cond.codeWith yL_size cL_size 3 (some .int) [(0, 5, 8, 13)], Cond.classLink RL 13 "java/lang/IllegalArgumentException", Cond.methodLink RL 7 yX3_size, Cond.instanceMethod yX3_size, Cond.selects RX3 yX3_size yX3_size, Cond.code yX3_size cX3_size 3 none, Cond.classLink RX3 45 "java/lang/IllegalArgumentException", Cond.initialized "java/lang/IllegalArgumentException", Cond.methodLink RX3 52 yX3_places, Cond.instanceMethod yX3_places, Cond.selects RX3 yX3_places yX3_places, Cond.code yX3_places cX3_places 1 (some .int), Cond.methodLink RL 74 yX4_size, Cond.instanceMethod yX4_size, Cond.selects RX4 yX4_size yX4_size, Cond.code yX4_size cX4_size 3 none]
def wsL_law0_r4 : List Cond := [Cond.fieldLink RX4 36 "ThreePrimesModel" "thrown" "I", Cond.fieldLink RX4 39 "ThreePrimesModel" "results" "I", Cond.methodLink RL 75 yX4_thrown, Cond.instanceMethod yX4_thrown, Cond.selects RX4 yX4_thrown yX4_thrown, Cond.code yX4_thrown cX4_thrown 1 (some .int), Cond.methodLink RL 79 yL_setA, Cond.static yL_setA, Cond.codeWith yL_setA cL_setA 5 (some .int) [(0, 10, 13, 19)], Cond.classLink RL 19 "java/lang/IndexOutOfBoundsException", Cond.methodLink RL 15 yX3_setA, Cond.instanceMethod yX3_setA, Cond.selects RX3 yX3_setA yX3_setA, Cond.code yX3_setA cX3_setA 4 (some .int), Cond.methodLink RX3 56 yX3_requirePlace, Cond.instanceMethod yX3_requirePlace, Cond.selects RX3 yX3_requirePlace yX3_requirePlace, Cond.code yX3_requirePlace cX3_requirePlace 2 none, Cond.classLink RX3 122 "java/lang/IndexOutOfBoundsException", Cond.initialized "java/lang/IndexOutOfBoundsException", Cond.methodLink RL 82 yX4_setA, Cond.instanceMethod yX4_setA, Cond.selects RX4 yX4_setA yX4_setA, Cond.code yX4_setA cX4_setA 4 (some .int)]
def wsL_law0_r5 : List Cond := [Cond.methodLink RX4 42 yX4_noPlace, Cond.instanceMethod yX4_noPlace, Cond.selects RX4 yX4_noPlace yX4_noPlace, Cond.code yX4_noPlace cX4_noPlace 2 (some .boolean), Cond.methodLink RL 83 yL_setB, Cond.static yL_setB, Cond.codeWith yL_setB cL_setB 5 (some .int) [(0, 10, 13, 19)], Cond.methodLink RL 21 yX3_setB, Cond.instanceMethod yX3_setB, Cond.selects RX3 yX3_setB yX3_setB, Cond.code yX3_setB cX3_setB 4 (some .int), Cond.methodLink RL 85 yX4_setB, Cond.instanceMethod yX4_setB, Cond.selects RX4 yX4_setB yX4_setB, Cond.code yX4_setB cX4_setB 4 (some .int), Cond.methodLink RL 86 yL_a, Cond.static yL_a, Cond.codeWith yL_a cL_a 4 (some .int) [(0, 9, 12, 19)], Cond.methodLink RL 24 yX3_a, Cond.instanceMethod yX3_a, Cond.selects RX3 yX3_a yX3_a, Cond.code yX3_a cX3_a 2 (some .int), Cond.methodLink RL 89 yX4_a, Cond.instanceMethod yX4_a]
def wsL_law0_r6 : List Cond := [Cond.selects RX4 yX4_a yX4_a, Cond.code yX4_a cX4_a 2 (some .int), Cond.methodLink RL 90 yL_b, Cond.static yL_b, Cond.codeWith yL_b cL_b 4 (some .int) [(0, 9, 12, 19)], Cond.methodLink RL 28 yX3_b, Cond.instanceMethod yX3_b, Cond.selects RX3 yX3_b yX3_b, Cond.code yX3_b cX3_b 2 (some .int), Cond.methodLink RL 92 yX4_b, Cond.instanceMethod yX4_b, Cond.selects RX4 yX4_b yX4_b, Cond.code yX4_b cX4_b 2 (some .int), Cond.methodLink RL 93 yX3_swap, Cond.instanceMethod yX3_swap, Cond.selects RX3 yX3_swap yX3_swap, Cond.code yX3_swap cX3_swap 2 none, Cond.methodLink RL 96 yX4_swap, Cond.instanceMethod yX4_swap, Cond.selects RX4 yX4_swap yX4_swap, Cond.code yX4_swap cX4_swap 3 none, Cond.methodLink RL 97 yL_fold, Cond.static yL_fold, Cond.codeWith yL_fold cL_fold 4 (some .int) [(0, 9, 12, 13)]]
def wsL_law0_r7 : List Cond := [Cond.methodLink RL 31 yX3_fold, Cond.instanceMethod yX3_fold, Cond.selects RX3 yX3_fold yX3_fold, Cond.code yX3_fold cX3_fold 2 (some .int), Cond.methodLink RX3 61 yX0_foldRows, Cond.instanceMethod yX0_foldRows, Cond.selects RX0 yX0_foldRows yX0_foldRows, Cond.code yX0_foldRows cX0_foldRows 10 none, Cond.methodLink RX0 25 yX0_loadRemainders, Cond.instanceMethod yX0_loadRemainders, Cond.selects RX0 yX0_loadRemainders yX0_loadRemainders, Cond.code yX0_loadRemainders cX0_loadRemainders 6 none, Cond.methodLink RX0 40 yX1_remainder, Cond.static yX1_remainder, Cond.initialized RX1, Cond.code yX1_remainder cX1_remainder 5 (some .long), Cond.methodLink RX0 29 yX0_foldRoundModulo, Cond.instanceMethod yX0_foldRoundModulo, Cond.selects RX0 yX0_foldRoundModulo yX0_foldRoundModulo, Cond.code yX0_foldRoundModulo cX0_foldRoundModulo 7 none, Cond.methodLink RX0 52 yX1_rootOfOne, Cond.static yX1_rootOfOne, Cond.code yX1_rootOfOne cX1_rootOfOne 2 (some .long), Cond.constantLong RX1 13 (3)]
def wsL_law0_r8 : List Cond := [Cond.methodLink RX1 7 yX1_raise, Cond.static yX1_raise, Cond.code yX1_raise cX1_raise 9 (some .long), Cond.methodLink RX0 56 yX0_listRootPowers, Cond.instanceMethod yX0_listRootPowers, Cond.selects RX0 yX0_listRootPowers yX0_listRootPowers, Cond.code yX0_listRootPowers cX0_listRootPowers 6 none, Cond.methodLink RX0 60 yX0_turnIntoValues, Cond.instanceMethod yX0_turnIntoValues, Cond.selects RX0 yX0_turnIntoValues yX0_turnIntoValues, Cond.code yX0_turnIntoValues cX0_turnIntoValues 8 none, Cond.methodLink RX0 70 yX0_splitBlock, Cond.instanceMethod yX0_splitBlock, Cond.selects RX0 yX0_splitBlock yX0_splitBlock, Cond.code yX0_splitBlock cX0_splitBlock 13 none, Cond.methodLink RX0 64 yX1_inverse, Cond.static yX1_inverse, Cond.code yX1_inverse cX1_inverse 3 (some .long), Cond.methodLink RX0 67 yX0_turnBack, Cond.instanceMethod yX0_turnBack, Cond.selects RX0 yX0_turnBack yX0_turnBack, Cond.code yX0_turnBack cX0_turnBack 8 none, Cond.methodLink RX0 74 yX0_joinBlock, Cond.instanceMethod yX0_joinBlock]
def wsL_law0_r9 : List Cond := [Cond.selects RX0 yX0_joinBlock yX0_joinBlock, Cond.code yX0_joinBlock cX0_joinBlock 15 none, Cond.methodLink RX0 33 yX0_takeAwayUpperHalf, Cond.instanceMethod yX0_takeAwayUpperHalf, Cond.selects RX0 yX0_takeAwayUpperHalf yX0_takeAwayUpperHalf, Cond.code yX0_takeAwayUpperHalf cX0_takeAwayUpperHalf 4 none, Cond.methodLink RX0 36 yX0_storeRemainders, Cond.instanceMethod yX0_storeRemainders, Cond.selects RX0 yX0_storeRemainders yX0_storeRemainders, Cond.code yX0_storeRemainders cX0_storeRemainders 5 none, Cond.methodLink RX0 46 yX2_setRemainder, Cond.instanceMethod yX2_setRemainder, Cond.selects RX2 yX2_setRemainder yX2_setRemainder, Cond.code yX2_setRemainder cX2_setRemainder 5 none, Cond.methodLink RL 99 yX4_fold, Cond.instanceMethod yX4_fold, Cond.selects RX4 yX4_fold yX4_fold, Cond.code yX4_fold cX4_fold 7 (some .int), Cond.methodLink RX4 50 yX4_add, Cond.instanceMethod yX4_add, Cond.selects RX4 yX4_add yX4_add, Cond.code yX4_add cX4_add 7 none, Cond.constantLong RX4 46 (-9223372036854775808), Cond.constantLong RX4 48 (-1)]
def wsL_law0_r10 : List Cond := [Cond.methodLink RL 100 yL_power, Cond.static yL_power, Cond.codeWith yL_power cL_power 4 (some .int) [(0, 9, 12, 13)], Cond.methodLink RL 34 yX3_power, Cond.instanceMethod yX3_power, Cond.selects RX3 yX3_power yX3_power, Cond.code yX3_power cX3_power 4 (some .int), Cond.methodLink RX3 67 arraycopyName, Cond.native arraycopyName, Cond.static arraycopyName, Cond.initialized "java/lang/System", Cond.methodLink RX3 73 yX3_foldRowAWith, Cond.instanceMethod yX3_foldRowAWith, Cond.selects RX3 yX3_foldRowAWith yX3_foldRowAWith, Cond.code yX3_foldRowAWith cX3_foldRowAWith 2 none, Cond.methodLink RX3 116 yX2_cutInto, Cond.instanceMethod yX2_cutInto, Cond.selects RX2 yX2_cutInto yX2_cutInto, Cond.code yX2_cutInto cX2_cutInto 4 none, Cond.methodLink RX2 20 yX2_lowest64Bits, Cond.instanceMethod yX2_lowest64Bits, Cond.selects RX2 yX2_lowest64Bits yX2_lowest64Bits, Cond.code yX2_lowest64Bits cX2_lowest64Bits 4 (some .long), Cond.constantLong RX2 27 (167477612308856833)]
def wsL_law0_r11 : List Cond := [Cond.methodLink RX2 24 yX2_moduloFirstTwo, Cond.instanceMethod yX2_moduloFirstTwo, Cond.selects RX2 yX2_moduloFirstTwo yX2_moduloFirstTwo, Cond.code yX2_moduloFirstTwo cX2_moduloFirstTwo 6 (some .long), Cond.constantLong RX2 37 (998244353), Cond.constantLong RX2 39 (47450712), Cond.constant RX2 41 (167772161), Cond.methodLink RX2 42 yX1_remainder, Cond.methodLink RX2 29 yX2_timesOfFirstTwo, Cond.instanceMethod yX2_timesOfFirstTwo, Cond.selects RX2 yX2_timesOfFirstTwo yX2_timesOfFirstTwo, Cond.code yX2_timesOfFirstTwo cX2_timesOfFirstTwo 8 (some .long), Cond.constantLong RX2 48 (469762049), Cond.constantLong RX2 50 (115990628), Cond.constant RX2 52 (469762049), Cond.constantLong RX2 53 (234881024), Cond.methodLink RL 102 yX4_power, Cond.instanceMethod yX4_power, Cond.selects RX4 yX4_power yX4_power, Cond.code yX4_power cX4_power 5 (some .int), Cond.methodLink RX4 54 yX4_foldKept, Cond.instanceMethod yX4_foldKept, Cond.selects RX4 yX4_foldKept yX4_foldKept, Cond.code yX4_foldKept cX4_foldKept 5 none]
def wsL_law0_r12 : List Cond := [Cond.methodLink RL 103 yL_low, Cond.static yL_low, Cond.codeWith yL_low cL_low 4 (some .int) [(0, 8, 11, 19)], Cond.methodLink RL 37 yX3_low, Cond.instanceMethod yX3_low, Cond.selects RX3 yX3_low yX3_low, Cond.code yX3_low cX3_low 2 (some .long), Cond.methodLink RX3 77 yX3_requireResult, Cond.instanceMethod yX3_requireResult, Cond.selects RX3 yX3_requireResult yX3_requireResult, Cond.code yX3_requireResult cX3_requireResult 2 none, Cond.methodLink RX3 80 yX2_lowest64Bits, Cond.methodLink RL 105 yX4_low, Cond.instanceMethod yX4_low, Cond.selects RX4 yX4_low yX4_low, Cond.code yX4_low cX4_low 2 (some .long), Cond.methodLink RX4 57 yX4_noResult, Cond.instanceMethod yX4_noResult, Cond.selects RX4 yX4_noResult yX4_noResult, Cond.code yX4_noResult cX4_noResult 2 (some .boolean), Cond.methodLink RL 106 yL_high, Cond.static yL_high, Cond.codeWith yL_high cL_high 4 (some .int) [(0, 9, 12, 19)], Cond.methodLink RL 41 yX3_high]
def wsL_law0_r13 : List Cond := [Cond.instanceMethod yX3_high, Cond.selects RX3 yX3_high yX3_high, Cond.code yX3_high cX3_high 2 (some .int), Cond.methodLink RX3 84 yX2_bitsAbove64, Cond.instanceMethod yX2_bitsAbove64, Cond.selects RX2 yX2_bitsAbove64 yX2_bitsAbove64, Cond.code yX2_bitsAbove64 cX2_bitsAbove64 10 (some .int), Cond.constantLong RX2 33 (1166016513), Cond.constantLong RX2 35 (38993920), Cond.methodLink RL 108 yX4_high, Cond.instanceMethod yX4_high, Cond.selects RX4 yX4_high yX4_high, Cond.code yX4_high cX4_high 2 (some .int), Cond.methodLink RL 109 yL_rest, Cond.static yL_rest, Cond.codeWith yL_rest cL_rest 5 (some .int) [(0, 10, 13, 13), (0, 10, 17, 19)], Cond.methodLink RL 44 yX3_rest, Cond.instanceMethod yX3_rest, Cond.selects RX3 yX3_rest yX3_rest, Cond.code yX3_rest cX3_rest 3 (some .int), Cond.methodLink RX3 88 yX3_requirePrime, Cond.instanceMethod yX3_requirePrime, Cond.selects RX3 yX3_requirePrime yX3_requirePrime, Cond.code yX3_requirePrime cX3_requirePrime 2 none]
def wsL_law0_r14 : List Cond := [Cond.fieldLink RX3 99 "ThreePrimes" "PRIMES" "[I", Cond.methodLink RX3 91 yX2_remainder, Cond.instanceMethod yX2_remainder, Cond.selects RX2 yX2_remainder yX2_remainder, Cond.code yX2_remainder cX2_remainder 3 (some .int), Cond.methodLink RL 111 yX4_rest, Cond.instanceMethod yX4_rest, Cond.selects RX4 yX4_rest yX4_rest, Cond.code yX4_rest cX4_rest 8 (some .int), Cond.constantLong RX4 77 (2), Cond.methodLink RX4 66 yX4_noPrime, Cond.static yX4_noPrime, Cond.code yX4_noPrime cX4_noPrime 1 (some .boolean), Cond.methodLink RX4 69 yX4_prime, Cond.static yX4_prime, Cond.code yX4_prime cX4_prime 1 (some .long), Cond.constantLong RX4 60 (998244353), Cond.constantLong RX4 62 (167772161), Cond.constantLong RX4 64 (469762049), Cond.methodLink RX4 73 yX4_restOf, Cond.static yX4_restOf, Cond.code yX4_restOf cX4_restOf 6 (some .long), Cond.methodLink RL 112 yL_value, Cond.static yL_value]
def wsL_law0_r15 : List Cond := [Cond.codeWith yL_value cL_value 5 (some .int) [(0, 10, 13, 13), (0, 10, 17, 19)], Cond.methodLink RL 47 yX3_value, Cond.instanceMethod yX3_value, Cond.selects RX3 yX3_value yX3_value, Cond.code yX3_value cX3_value 3 (some .int), Cond.methodLink RX3 95 yX3_rootToThe, Cond.instanceMethod yX3_rootToThe, Cond.selects RX3 yX3_rootToThe yX3_rootToThe, Cond.code yX3_rootToThe cX3_rootToThe 4 (some .long), Cond.methodLink RX3 131 yX1_rootOfOne, Cond.methodLink RX3 134 yX1_raise, Cond.methodLink RX3 102 yX3_rowAAt, Cond.instanceMethod yX3_rowAAt, Cond.selects RX3 yX3_rowAAt yX3_rowAAt, Cond.code yX3_rowAAt cX3_rowAAt 7 (some .long), Cond.methodLink RX3 120 yX1_remainder, Cond.methodLink RL 114 yX4_value, Cond.instanceMethod yX4_value, Cond.selects RX4 yX4_value yX4_value, Cond.code yX4_value cX4_value 3 (some .int), Cond.methodLink RX4 88 yX4_sumOf, Cond.instanceMethod yX4_sumOf, Cond.selects RX4 yX4_sumOf yX4_sumOf, Cond.code yX4_sumOf cX4_sumOf 13 (some .long)]
def wsL_law0_r16 : List Cond := [Cond.methodLink RX4 85 yX4_rootOf, Cond.instanceMethod yX4_rootOf, Cond.selects RX4 yX4_rootOf yX4_rootOf, Cond.code yX4_rootOf cX4_rootOf 4 (some .long), Cond.constantLong RX4 79 (3), Cond.methodLink RX4 81 yX4_raised, Cond.static yX4_raised, Cond.code yX4_raised cX4_raised 12 (some .long), Cond.methodLink RL 115 yL_back, Cond.static yL_back, Cond.codeWith yL_back cL_back 5 (some .int) [(0, 10, 13, 13), (0, 10, 17, 19)], Cond.methodLink RL 50 yX3_back, Cond.instanceMethod yX3_back, Cond.selects RX3 yX3_back yX3_back, Cond.code yX3_back cX3_back 4 (some .int), Cond.methodLink RX3 106 yX1_inverse, Cond.methodLink RL 117 yX4_back, Cond.instanceMethod yX4_back, Cond.selects RX4 yX4_back yX4_back, Cond.code yX4_back cX4_back 5 (some .int), Cond.methodLink RL 118 yL_keep, Cond.static yL_keep, Cond.codeWith yL_keep cL_keep 2 (some .int) [(0, 4, 7, 56)], Cond.classLink RL 56 "java/lang/IllegalStateException"]
def wsL_law0_r17 : List Cond := [Cond.methodLink RL 53 yX3_keep, Cond.instanceMethod yX3_keep, Cond.selects RX3 yX3_keep yX3_keep, Cond.code yX3_keep cX3_keep 1 none, Cond.classLink RX3 111 "java/lang/IllegalStateException", Cond.initialized "java/lang/IllegalStateException", Cond.methodLink RL 121 yX4_keep, Cond.instanceMethod yX4_keep, Cond.selects RX4 yX4_keep yX4_keep, Cond.code yX4_keep cX4_keep 2 none, Cond.methodLink RL 122 yL_product, Cond.static yL_product, Cond.codeWith yL_product cL_product 6 (some .int) [(0, 12, 15, 13)], Cond.methodLink RL 58 yX3_product, Cond.instanceMethod yX3_product, Cond.selects RX3 yX3_product yX3_product, Cond.code yX3_product cX3_product 4 (some .int), Cond.methodLink RL 125 yX4_product, Cond.instanceMethod yX4_product, Cond.selects RX4 yX4_product yX4_product, Cond.code yX4_product cX4_product 6 (some .int), Cond.methodLink RL 126 yL_root, Cond.static yL_root, Cond.codeWith yL_root cL_root 5 (some .int) [(0, 10, 13, 13)]]
def wsL_law0_r18 : List Cond := [Cond.methodLink RL 62 yX3_root, Cond.instanceMethod yX3_root, Cond.selects RX3 yX3_root yX3_root, Cond.code yX3_root cX3_root 3 (some .int), Cond.methodLink RL 128 yX4_root, Cond.instanceMethod yX4_root, Cond.selects RX4 yX4_root yX4_root, Cond.code yX4_root cX4_root 5 (some .int)]
def wsL_law0 : List Cond := (wsL_law0_r1 ++ (wsL_law0_r2 ++ (wsL_law0_r3 ++ (wsL_law0_r4 ++ (wsL_law0_r5 ++ (wsL_law0_r6 ++ (wsL_law0_r7 ++ (wsL_law0_r8 ++ (wsL_law0_r9 ++ (wsL_law0_r10 ++ (wsL_law0_r11 ++ (wsL_law0_r12 ++ (wsL_law0_r13 ++ (wsL_law0_r14 ++ (wsL_law0_r15 ++ (wsL_law0_r16 ++ (wsL_law0_r17 ++ wsL_law0_r18))))))))))))))))) ++ wsX30 ++ wsX40 ++ wsX20 ++ wsX00 ++ ([] : List Cond)
def wsL_law : List Cond := wsL_law0 ++ (vx_atS RX3 49 "java/lang/IllegalArgumentException" ["java/lang/RuntimeException", "java/lang/Exception"]).filter goodWord ++ (vx_atS RX3 126 "java/lang/IndexOutOfBoundsException" ["java/lang/RuntimeException", "java/lang/Exception"]).filter goodWord ++ (vx_atS RX3 115 "java/lang/IllegalStateException" ["java/lang/RuntimeException", "java/lang/Exception"]).filter goodWord
set_option maxRecDepth 20000 in
theorem wsL_law_in0 : ∀ w ∈ wsL_law0, w ∈ lw_tbl := fun w h => (goodIn_p wsL_law0 [42, 45, 50, 65, 453, 114, 186, 493, 489, 194, 198, 497, 501, 221, 505, 228, 509, 235, 513, 106, 517, 242, 247, 252, 255, 259, 262, 266, 270, 274, 278, 281, 285, 289, 293, 297, 301, 521, 525, 308, 316, 320, 324, 328, 337, 531, 535, 348, 352, 539, 543, 361, 365, 547, 374, 378, 384, 551, 554, 557, 563, 391, 395, 401, 568, 572, 576, 580, 409, 584, 418, 588, 441, 592, 448, 596] (by decide +kernel) (by decide +kernel) w h).1
theorem wsL_law_x0 : ∀ w ∈ (vx_atS RX3 49 "java/lang/IllegalArgumentException" ["java/lang/RuntimeException", "java/lang/Exception"]).filter goodWord, w ∈ lw_tbl := by decide +kernel
theorem wsL_law_x1 : ∀ w ∈ (vx_atS RX3 126 "java/lang/IndexOutOfBoundsException" ["java/lang/RuntimeException", "java/lang/Exception"]).filter goodWord, w ∈ lw_tbl := by decide +kernel
theorem wsL_law_x2 : ∀ w ∈ (vx_atS RX3 115 "java/lang/IllegalStateException" ["java/lang/RuntimeException", "java/lang/Exception"]).filter goodWord, w ∈ lw_tbl := by decide +kernel
theorem wsL_law_in : ∀ w ∈ wsL_law, w ∈ lw_tbl := fun w h => (List.mem_append.mp h).elim (fun h => (List.mem_append.mp h).elim (fun h => (List.mem_append.mp h).elim (fun h => wsL_law_in0 w h) (fun h => wsL_law_x0 w h)) (fun h => wsL_law_x1 w h)) (fun h => wsL_law_x2 w h)
theorem inlX0 : ∀ w ∈ wsX00, w ∈ wsL_law := fun _ h => List.mem_append_left _ (List.mem_append_left _ (List.mem_append_left _ (List.mem_append_left _ (List.mem_append_right _ h))))
theorem inX0 : ∀ w ∈ wsX00, w ∈ lw_tbl := fun w h => wsL_law_in w (inlX0 w h)
theorem inX1 : ∀ w ∈ wsX10, w ∈ lw_tbl := by decide +kernel
theorem inlX2 : ∀ w ∈ wsX20, w ∈ wsL_law := fun _ h => List.mem_append_left _ (List.mem_append_left _ (List.mem_append_left _ (List.mem_append_left _ (List.mem_append_left _ (List.mem_append_right _ h)))))
theorem inX2 : ∀ w ∈ wsX20, w ∈ lw_tbl := fun w h => wsL_law_in w (inlX2 w h)
theorem inlX3 : ∀ w ∈ wsX30, w ∈ wsL_law := fun _ h => List.mem_append_left _ (List.mem_append_left _ (List.mem_append_left _ (List.mem_append_left _ (List.mem_append_left _ (List.mem_append_left _ (List.mem_append_left _ (List.mem_append_right _ h)))))))
theorem inX3 : ∀ w ∈ wsX30, w ∈ lw_tbl := fun w h => wsL_law_in w (inlX3 w h)
theorem inlX4 : ∀ w ∈ wsX40, w ∈ wsL_law := fun _ h => List.mem_append_left _ (List.mem_append_left _ (List.mem_append_left _ (List.mem_append_left _ (List.mem_append_left _ (List.mem_append_left _ (List.mem_append_right _ h))))))
theorem inX4 : ∀ w ∈ wsX40, w ∈ lw_tbl := fun w h => wsL_law_in w (inlX4 w h)
theorem inJ0 : ∀ w ∈ wsJ00, w ∈ lw_tbl := by decide +kernel
theorem inJ10 : ∀ w ∈ wsJ100, w ∈ lw_tbl := by decide +kernel
abbrev vwCl : List vw_C := [(RX0, TX0, 3), (RX2, TX2, 1), (RX3, TX3, 8), (RX4, TX4, 10)]
end
section
theorem dX0_init_0 : decode cX0_init 0 = .ok (.aload_n 0, 1) := by decide +kernel
theorem dX0_init_1 : decode cX0_init 1 = .ok (.invokespecial 3, 3) := by decide +kernel
theorem dX0_init_4 : decode cX0_init 4 = .ok (.aload_n 0, 1) := by decide +kernel
theorem dX0_init_5 : decode cX0_init 5 = .ok (.iload_n 1, 1) := by decide +kernel
theorem dX0_init_6 : decode cX0_init 6 = .ok (.newarray .long, 2) := by decide +kernel
theorem dX0_init_8 : decode cX0_init 8 = .ok (.putfield 9, 3) := by decide +kernel
theorem dX0_init_11 : decode cX0_init 11 = .ok (.aload_n 0, 1) := by decide +kernel
theorem dX0_init_12 : decode cX0_init 12 = .ok (.iload_n 1, 1) := by decide +kernel
theorem dX0_init_13 : decode cX0_init 13 = .ok (.newarray .long, 2) := by decide +kernel
theorem dX0_init_15 : decode cX0_init 15 = .ok (.putfield 15, 3) := by decide +kernel
theorem dX0_init_18 : decode cX0_init 18 = .ok (.aload_n 0, 1) := by decide +kernel
theorem dX0_init_19 : decode cX0_init 19 = .ok (.iload_n 1, 1) := by decide +kernel
theorem dX0_init_20 : decode cX0_init 20 = .ok (.iconst 2, 1) := by decide +kernel
theorem dX0_init_21 : decode cX0_init 21 = .ok (.idiv, 1) := by decide +kernel
theorem dX0_init_22 : decode cX0_init 22 = .ok (.newarray .long, 2) := by decide +kernel
theorem dX0_init_24 : decode cX0_init 24 = .ok (.putfield 18, 3) := by decide +kernel
theorem dX0_init_27 : decode cX0_init 27 = .ok (.return_, 1) := by decide +kernel
set_option maxRecDepth 20000 in
theorem ggX0_foldRows_X0_loadRemainders : GoodIn wsX0_foldRows wsX0_loadRemainders := goodIn_r _ [7, 8, 9, 10, 11] (by decide +kernel) (by decide +kernel)
set_option maxRecDepth 20000 in
theorem gX0_foldRows_X0_loadRemainders : GoodIn wsX0_foldRows (wsV RX0 25 RX0 yX0_loadRemainders wsX0_loadRemainders) := goodIn_app (goodIn_of _ (by decide +kernel)) ggX0_foldRows_X0_loadRemainders
set_option maxRecDepth 20000 in
theorem ggX0_foldRows_X0_foldRoundModulo : GoodIn wsX0_foldRows wsX0_foldRoundModulo := goodIn_r _ [15, 1, 2, 16, 17, 10, 18, 19, 20, 21, 22, 23, 24, 25, 6, 26, 27, 28, 29, 30, 31, 32, 33, 34, 35, 36, 37, 38, 39, 40, 41, 42, 43, 44, 45, 46, 61, 62, 63] (by decide +kernel) (by decide +kernel)
set_option maxRecDepth 20000 in
theorem gX0_foldRows_X0_foldRoundModulo : GoodIn wsX0_foldRows (wsV RX0 29 RX0 yX0_foldRoundModulo wsX0_foldRoundModulo) := goodIn_app (goodIn_of _ (by decide +kernel)) ggX0_foldRows_X0_foldRoundModulo
set_option maxRecDepth 20000 in
theorem ggX0_foldRows_X0_takeAwayUpperHalf : GoodIn wsX0_foldRows wsX0_takeAwayUpperHalf := goodIn_r _ [50, 1, 8, 9, 10, 11, 61, 62, 63] (by decide +kernel) (by decide +kernel)
set_option maxRecDepth 20000 in
theorem gX0_foldRows_X0_takeAwayUpperHalf : GoodIn wsX0_foldRows (wsV RX0 33 RX0 yX0_takeAwayUpperHalf wsX0_takeAwayUpperHalf) := goodIn_app (goodIn_of _ (by decide +kernel)) ggX0_foldRows_X0_takeAwayUpperHalf
set_option maxRecDepth 20000 in
theorem ggX0_foldRows_X0_storeRemainders : GoodIn wsX0_foldRows wsX0_storeRemainders := goodIn_r _ [54, 1, 55, 56, 57, 58, 59, 60, 61, 62, 63, 64] (by decide +kernel) (by decide +kernel)
set_option maxRecDepth 20000 in
theorem gX0_foldRows_X0_storeRemainders : GoodIn wsX0_foldRows (wsV RX0 36 RX0 yX0_storeRemainders wsX0_storeRemainders) := goodIn_app (goodIn_of _ (by decide +kernel)) ggX0_foldRows_X0_storeRemainders
theorem dX0_foldRows_0 : decode cX0_foldRows 0 = .ok (.iload 4, 2) := by decide +kernel
theorem dX0_foldRows_2 : decode cX0_foldRows 2 = .ok (.ifCond .ne 7, 3) := by decide +kernel
theorem dX0_foldRows_5 : decode cX0_foldRows 5 = .ok (.iload_n 3, 1) := by decide +kernel
theorem dX0_foldRows_6 : decode cX0_foldRows 6 = .ok (.goto 6, 3) := by decide +kernel
theorem dX0_foldRows_9 : decode cX0_foldRows 9 = .ok (.iload_n 3, 1) := by decide +kernel
theorem dX0_foldRows_10 : decode cX0_foldRows 10 = .ok (.iconst 1, 1) := by decide +kernel
theorem dX0_foldRows_11 : decode cX0_foldRows 11 = .ok (.iadd, 1) := by decide +kernel
theorem dX0_foldRows_12 : decode cX0_foldRows 12 = .ok (.istore 6, 2) := by decide +kernel
theorem dX0_foldRows_14 : decode cX0_foldRows 14 = .ok (.iconst 1, 1) := by decide +kernel
theorem dX0_foldRows_15 : decode cX0_foldRows 15 = .ok (.iload_n 3, 1) := by decide +kernel
theorem dX0_foldRows_16 : decode cX0_foldRows 16 = .ok (.ishl, 1) := by decide +kernel
theorem dX0_foldRows_17 : decode cX0_foldRows 17 = .ok (.istore 7, 2) := by decide +kernel
theorem dX0_foldRows_19 : decode cX0_foldRows 19 = .ok (.iconst 0, 1) := by decide +kernel
theorem dX0_foldRows_20 : decode cX0_foldRows 20 = .ok (.istore 8, 2) := by decide +kernel
theorem dX0_foldRows_22 : decode cX0_foldRows 22 = .ok (.iload 8, 2) := by decide +kernel
theorem dX0_foldRows_24 : decode cX0_foldRows 24 = .ok (.getstatic 21, 3) := by decide +kernel
theorem dX0_foldRows_27 : decode cX0_foldRows 27 = .ok (.arraylength, 1) := by decide +kernel
theorem dX0_foldRows_28 : decode cX0_foldRows 28 = .ok (.if_icmp .ge 90, 3) := by decide +kernel
theorem dX0_foldRows_31 : decode cX0_foldRows 31 = .ok (.getstatic 21, 3) := by decide +kernel
theorem dX0_foldRows_34 : decode cX0_foldRows 34 = .ok (.iload 8, 2) := by decide +kernel
theorem dX0_foldRows_36 : decode cX0_foldRows 36 = .ok (.iaload, 1) := by decide +kernel
theorem dX0_foldRows_37 : decode cX0_foldRows 37 = .ok (.istore 9, 2) := by decide +kernel
theorem dX0_foldRows_39 : decode cX0_foldRows 39 = .ok (.aload_n 0, 1) := by decide +kernel
theorem dX0_foldRows_40 : decode cX0_foldRows 40 = .ok (.aload_n 1, 1) := by decide +kernel
theorem dX0_foldRows_41 : decode cX0_foldRows 41 = .ok (.iload 7, 2) := by decide +kernel
theorem dX0_foldRows_43 : decode cX0_foldRows 43 = .ok (.aload_n 0, 1) := by decide +kernel
theorem dX0_foldRows_44 : decode cX0_foldRows 44 = .ok (.getfield 9, 3) := by decide +kernel
theorem dX0_foldRows_47 : decode cX0_foldRows 47 = .ok (.iload 9, 2) := by decide +kernel
theorem dX0_foldRows_49 : decode cX0_foldRows 49 = .ok (.invokevirtual 25, 3) := by decide +kernel
theorem dX0_foldRows_52 : decode cX0_foldRows 52 = .ok (.aload_n 0, 1) := by decide +kernel
theorem dX0_foldRows_53 : decode cX0_foldRows 53 = .ok (.aload_n 2, 1) := by decide +kernel
theorem dX0_foldRows_54 : decode cX0_foldRows 54 = .ok (.iload 7, 2) := by decide +kernel
theorem dX0_foldRows_56 : decode cX0_foldRows 56 = .ok (.aload_n 0, 1) := by decide +kernel
theorem dX0_foldRows_57 : decode cX0_foldRows 57 = .ok (.getfield 15, 3) := by decide +kernel
theorem dX0_foldRows_60 : decode cX0_foldRows 60 = .ok (.iload 9, 2) := by decide +kernel
theorem dX0_foldRows_62 : decode cX0_foldRows 62 = .ok (.invokevirtual 25, 3) := by decide +kernel
theorem dX0_foldRows_65 : decode cX0_foldRows 65 = .ok (.aload_n 0, 1) := by decide +kernel
theorem dX0_foldRows_66 : decode cX0_foldRows 66 = .ok (.iload 6, 2) := by decide +kernel
theorem dX0_foldRows_68 : decode cX0_foldRows 68 = .ok (.iload 9, 2) := by decide +kernel
theorem dX0_foldRows_70 : decode cX0_foldRows 70 = .ok (.invokevirtual 29, 3) := by decide +kernel
theorem dX0_foldRows_73 : decode cX0_foldRows 73 = .ok (.iload 4, 2) := by decide +kernel
theorem dX0_foldRows_75 : decode cX0_foldRows 75 = .ok (.iconst 1, 1) := by decide +kernel
theorem dX0_foldRows_76 : decode cX0_foldRows 76 = .ok (.if_icmp .ne 11, 3) := by decide +kernel
theorem dX0_foldRows_79 : decode cX0_foldRows 79 = .ok (.aload_n 0, 1) := by decide +kernel
theorem dX0_foldRows_80 : decode cX0_foldRows 80 = .ok (.iload 7, 2) := by decide +kernel
theorem dX0_foldRows_82 : decode cX0_foldRows 82 = .ok (.iload 9, 2) := by decide +kernel
theorem dX0_foldRows_84 : decode cX0_foldRows 84 = .ok (.invokevirtual 33, 3) := by decide +kernel
theorem dX0_foldRows_87 : decode cX0_foldRows 87 = .ok (.aload_n 0, 1) := by decide +kernel
theorem dX0_foldRows_88 : decode cX0_foldRows 88 = .ok (.iload 4, 2) := by decide +kernel
theorem dX0_foldRows_90 : decode cX0_foldRows 90 = .ok (.iconst 2, 1) := by decide +kernel
theorem dX0_foldRows_91 : decode cX0_foldRows 91 = .ok (.if_icmp .ne 12, 3) := by decide +kernel
theorem dX0_foldRows_94 : decode cX0_foldRows 94 = .ok (.iconst 2, 1) := by decide +kernel
theorem dX0_foldRows_95 : decode cX0_foldRows 95 = .ok (.iload 7, 2) := by decide +kernel
theorem dX0_foldRows_97 : decode cX0_foldRows 97 = .ok (.imul, 1) := by decide +kernel
theorem dX0_foldRows_98 : decode cX0_foldRows 98 = .ok (.iconst 1, 1) := by decide +kernel
theorem dX0_foldRows_99 : decode cX0_foldRows 99 = .ok (.isub, 1) := by decide +kernel
theorem dX0_foldRows_100 : decode cX0_foldRows 100 = .ok (.goto 5, 3) := by decide +kernel
theorem dX0_foldRows_103 : decode cX0_foldRows 103 = .ok (.iload 7, 2) := by decide +kernel
theorem dX0_foldRows_105 : decode cX0_foldRows 105 = .ok (.iload 8, 2) := by decide +kernel
theorem dX0_foldRows_107 : decode cX0_foldRows 107 = .ok (.aload 5, 2) := by decide +kernel
theorem dX0_foldRows_109 : decode cX0_foldRows 109 = .ok (.invokevirtual 36, 3) := by decide +kernel
theorem dX0_foldRows_112 : decode cX0_foldRows 112 = .ok (.iinc 8 1, 3) := by decide +kernel
theorem dX0_foldRows_115 : decode cX0_foldRows 115 = .ok (.goto (-93), 3) := by decide +kernel
theorem dX0_foldRows_118 : decode cX0_foldRows 118 = .ok (.return_, 1) := by decide +kernel
set_option maxRecDepth 20000 in
theorem ggX0_loadRemainders_X1_remainder : GoodIn wsX0_loadRemainders wsX1_remainder := goodIn_r _ [4] (by decide +kernel) (by decide +kernel)
set_option maxRecDepth 20000 in
theorem gX0_loadRemainders_X1_remainder : GoodIn wsX0_loadRemainders (va_wsS RX0 40 yX1_remainder wsX1_remainder) := goodIn_app (goodIn_of _ (by decide +kernel)) ggX0_loadRemainders_X1_remainder
theorem dX0_loadRemainders_0 : decode cX0_loadRemainders 0 = .ok (.iconst 0, 1) := by decide +kernel
theorem dX0_loadRemainders_1 : decode cX0_loadRemainders 1 = .ok (.istore 5, 2) := by decide +kernel
theorem dX0_loadRemainders_3 : decode cX0_loadRemainders 3 = .ok (.iload 5, 2) := by decide +kernel
theorem dX0_loadRemainders_5 : decode cX0_loadRemainders 5 = .ok (.iload_n 2, 1) := by decide +kernel
theorem dX0_loadRemainders_6 : decode cX0_loadRemainders 6 = .ok (.if_icmp .ge 30, 3) := by decide +kernel
theorem dX0_loadRemainders_9 : decode cX0_loadRemainders 9 = .ok (.aload_n 3, 1) := by decide +kernel
theorem dX0_loadRemainders_10 : decode cX0_loadRemainders 10 = .ok (.iload 5, 2) := by decide +kernel
theorem dX0_loadRemainders_12 : decode cX0_loadRemainders 12 = .ok (.aload_n 1, 1) := by decide +kernel
theorem dX0_loadRemainders_13 : decode cX0_loadRemainders 13 = .ok (.iload 5, 2) := by decide +kernel
theorem dX0_loadRemainders_15 : decode cX0_loadRemainders 15 = .ok (.iaload, 1) := by decide +kernel
theorem dX0_loadRemainders_16 : decode cX0_loadRemainders 16 = .ok (.i2l, 1) := by decide +kernel
theorem dX0_loadRemainders_17 : decode cX0_loadRemainders 17 = .ok (.iload 4, 2) := by decide +kernel
theorem dX0_loadRemainders_19 : decode cX0_loadRemainders 19 = .ok (.invokestatic 40, 3) := by decide +kernel
theorem dX0_loadRemainders_22 : decode cX0_loadRemainders 22 = .ok (.lastore, 1) := by decide +kernel
theorem dX0_loadRemainders_23 : decode cX0_loadRemainders 23 = .ok (.aload_n 3, 1) := by decide +kernel
theorem dX0_loadRemainders_24 : decode cX0_loadRemainders 24 = .ok (.iload 5, 2) := by decide +kernel
theorem dX0_loadRemainders_26 : decode cX0_loadRemainders 26 = .ok (.iload_n 2, 1) := by decide +kernel
theorem dX0_loadRemainders_27 : decode cX0_loadRemainders 27 = .ok (.iadd, 1) := by decide +kernel
theorem dX0_loadRemainders_28 : decode cX0_loadRemainders 28 = .ok (.lconst 0, 1) := by decide +kernel
theorem dX0_loadRemainders_29 : decode cX0_loadRemainders 29 = .ok (.lastore, 1) := by decide +kernel
theorem dX0_loadRemainders_30 : decode cX0_loadRemainders 30 = .ok (.iinc 5 1, 3) := by decide +kernel
theorem dX0_loadRemainders_33 : decode cX0_loadRemainders 33 = .ok (.goto (-30), 3) := by decide +kernel
theorem dX0_loadRemainders_36 : decode cX0_loadRemainders 36 = .ok (.return_, 1) := by decide +kernel
set_option maxRecDepth 20000 in
theorem ggX0_takeAwayUpperHalf_X1_remainder : GoodIn wsX0_takeAwayUpperHalf wsX1_remainder := goodIn_r _ [5] (by decide +kernel) (by decide +kernel)
set_option maxRecDepth 20000 in
theorem gX0_takeAwayUpperHalf_X1_remainder : GoodIn wsX0_takeAwayUpperHalf (va_wsS RX0 40 yX1_remainder wsX1_remainder) := goodIn_app (goodIn_of _ (by decide +kernel)) ggX0_takeAwayUpperHalf_X1_remainder
theorem dX0_takeAwayUpperHalf_0 : decode cX0_takeAwayUpperHalf 0 = .ok (.iconst 0, 1) := by decide +kernel
theorem dX0_takeAwayUpperHalf_1 : decode cX0_takeAwayUpperHalf 1 = .ok (.istore_n 3, 1) := by decide +kernel
theorem dX0_takeAwayUpperHalf_2 : decode cX0_takeAwayUpperHalf 2 = .ok (.iload_n 3, 1) := by decide +kernel
theorem dX0_takeAwayUpperHalf_3 : decode cX0_takeAwayUpperHalf 3 = .ok (.iload_n 1, 1) := by decide +kernel
theorem dX0_takeAwayUpperHalf_4 : decode cX0_takeAwayUpperHalf 4 = .ok (.if_icmp .ge 34, 3) := by decide +kernel
theorem dX0_takeAwayUpperHalf_7 : decode cX0_takeAwayUpperHalf 7 = .ok (.aload_n 0, 1) := by decide +kernel
theorem dX0_takeAwayUpperHalf_8 : decode cX0_takeAwayUpperHalf 8 = .ok (.getfield 9, 3) := by decide +kernel
theorem dX0_takeAwayUpperHalf_11 : decode cX0_takeAwayUpperHalf 11 = .ok (.iload_n 3, 1) := by decide +kernel
theorem dX0_takeAwayUpperHalf_12 : decode cX0_takeAwayUpperHalf 12 = .ok (.aload_n 0, 1) := by decide +kernel
theorem dX0_takeAwayUpperHalf_13 : decode cX0_takeAwayUpperHalf 13 = .ok (.getfield 9, 3) := by decide +kernel
theorem dX0_takeAwayUpperHalf_16 : decode cX0_takeAwayUpperHalf 16 = .ok (.iload_n 3, 1) := by decide +kernel
theorem dX0_takeAwayUpperHalf_17 : decode cX0_takeAwayUpperHalf 17 = .ok (.laload, 1) := by decide +kernel
theorem dX0_takeAwayUpperHalf_18 : decode cX0_takeAwayUpperHalf 18 = .ok (.aload_n 0, 1) := by decide +kernel
theorem dX0_takeAwayUpperHalf_19 : decode cX0_takeAwayUpperHalf 19 = .ok (.getfield 9, 3) := by decide +kernel
theorem dX0_takeAwayUpperHalf_22 : decode cX0_takeAwayUpperHalf 22 = .ok (.iload_n 3, 1) := by decide +kernel
theorem dX0_takeAwayUpperHalf_23 : decode cX0_takeAwayUpperHalf 23 = .ok (.iload_n 1, 1) := by decide +kernel
theorem dX0_takeAwayUpperHalf_24 : decode cX0_takeAwayUpperHalf 24 = .ok (.iadd, 1) := by decide +kernel
theorem dX0_takeAwayUpperHalf_25 : decode cX0_takeAwayUpperHalf 25 = .ok (.laload, 1) := by decide +kernel
theorem dX0_takeAwayUpperHalf_26 : decode cX0_takeAwayUpperHalf 26 = .ok (.lsub, 1) := by decide +kernel
theorem dX0_takeAwayUpperHalf_27 : decode cX0_takeAwayUpperHalf 27 = .ok (.iload_n 2, 1) := by decide +kernel
theorem dX0_takeAwayUpperHalf_28 : decode cX0_takeAwayUpperHalf 28 = .ok (.invokestatic 40, 3) := by decide +kernel
theorem dX0_takeAwayUpperHalf_31 : decode cX0_takeAwayUpperHalf 31 = .ok (.lastore, 1) := by decide +kernel
theorem dX0_takeAwayUpperHalf_32 : decode cX0_takeAwayUpperHalf 32 = .ok (.iinc 3 1, 3) := by decide +kernel
theorem dX0_takeAwayUpperHalf_35 : decode cX0_takeAwayUpperHalf 35 = .ok (.goto (-33), 3) := by decide +kernel
theorem dX0_takeAwayUpperHalf_38 : decode cX0_takeAwayUpperHalf 38 = .ok (.return_, 1) := by decide +kernel
set_option maxRecDepth 20000 in
theorem ggX0_storeRemainders_X2_setRemainder : GoodIn wsX0_storeRemainders wsX2_setRemainder := goodIn_r _ [6, 7, 11] (by decide +kernel) (by decide +kernel)
set_option maxRecDepth 20000 in
theorem gX0_storeRemainders_X2_setRemainder : GoodIn wsX0_storeRemainders (wsV RX0 46 RX2 yX2_setRemainder wsX2_setRemainder) := goodIn_app (goodIn_of _ (by decide +kernel)) ggX0_storeRemainders_X2_setRemainder
theorem dX0_storeRemainders_0 : decode cX0_storeRemainders 0 = .ok (.iconst 0, 1) := by decide +kernel
theorem dX0_storeRemainders_1 : decode cX0_storeRemainders 1 = .ok (.istore 4, 2) := by decide +kernel
theorem dX0_storeRemainders_3 : decode cX0_storeRemainders 3 = .ok (.iload 4, 2) := by decide +kernel
theorem dX0_storeRemainders_5 : decode cX0_storeRemainders 5 = .ok (.iload_n 1, 1) := by decide +kernel
theorem dX0_storeRemainders_6 : decode cX0_storeRemainders 6 = .ok (.if_icmp .ge 23, 3) := by decide +kernel
theorem dX0_storeRemainders_9 : decode cX0_storeRemainders 9 = .ok (.aload_n 3, 1) := by decide +kernel
theorem dX0_storeRemainders_10 : decode cX0_storeRemainders 10 = .ok (.iload_n 2, 1) := by decide +kernel
theorem dX0_storeRemainders_11 : decode cX0_storeRemainders 11 = .ok (.iload 4, 2) := by decide +kernel
theorem dX0_storeRemainders_13 : decode cX0_storeRemainders 13 = .ok (.aload_n 0, 1) := by decide +kernel
theorem dX0_storeRemainders_14 : decode cX0_storeRemainders 14 = .ok (.getfield 9, 3) := by decide +kernel
theorem dX0_storeRemainders_17 : decode cX0_storeRemainders 17 = .ok (.iload 4, 2) := by decide +kernel
theorem dX0_storeRemainders_19 : decode cX0_storeRemainders 19 = .ok (.laload, 1) := by decide +kernel
theorem dX0_storeRemainders_20 : decode cX0_storeRemainders 20 = .ok (.invokevirtual 46, 3) := by decide +kernel
theorem dX0_storeRemainders_23 : decode cX0_storeRemainders 23 = .ok (.iinc 4 1, 3) := by decide +kernel
theorem dX0_storeRemainders_26 : decode cX0_storeRemainders 26 = .ok (.goto (-23), 3) := by decide +kernel
theorem dX0_storeRemainders_29 : decode cX0_storeRemainders 29 = .ok (.return_, 1) := by decide +kernel
set_option maxRecDepth 20000 in
theorem ggX0_foldRoundModulo_X1_rootOfOne : GoodIn wsX0_foldRoundModulo wsX1_rootOfOne := goodIn_r _ [6, 7, 8, 9, 5, 10] (by decide +kernel) (by decide +kernel)
set_option maxRecDepth 20000 in
theorem gX0_foldRoundModulo_X1_rootOfOne : GoodIn wsX0_foldRoundModulo (va_wsS RX0 52 yX1_rootOfOne wsX1_rootOfOne) := goodIn_app (goodIn_of _ (by decide +kernel)) ggX0_foldRoundModulo_X1_rootOfOne
set_option maxRecDepth 20000 in
theorem ggX0_foldRoundModulo_X0_listRootPowers : GoodIn wsX0_foldRoundModulo wsX0_listRootPowers := goodIn_r _ [15, 16, 36, 37, 38] (by decide +kernel) (by decide +kernel)
set_option maxRecDepth 20000 in
theorem gX0_foldRoundModulo_X0_listRootPowers : GoodIn wsX0_foldRoundModulo (wsV RX0 56 RX0 yX0_listRootPowers wsX0_listRootPowers) := goodIn_app (goodIn_of _ (by decide +kernel)) ggX0_foldRoundModulo_X0_listRootPowers
set_option maxRecDepth 20000 in
theorem ggX0_foldRoundModulo_X0_turnIntoValues : GoodIn wsX0_foldRoundModulo wsX0_turnIntoValues := goodIn_r _ [20, 21, 22, 23, 14, 24, 16, 36, 37, 38] (by decide +kernel) (by decide +kernel)
set_option maxRecDepth 20000 in
theorem gX0_foldRoundModulo_X0_turnIntoValues : GoodIn wsX0_foldRoundModulo (wsV RX0 60 RX0 yX0_turnIntoValues wsX0_turnIntoValues) := goodIn_app (goodIn_of _ (by decide +kernel)) ggX0_foldRoundModulo_X0_turnIntoValues
set_option maxRecDepth 20000 in
theorem ggX0_foldRoundModulo_X1_inverse : GoodIn wsX0_foldRoundModulo wsX1_inverse := goodIn_r _ [27, 8, 9, 5, 10] (by decide +kernel) (by decide +kernel)
set_option maxRecDepth 20000 in
theorem gX0_foldRoundModulo_X1_inverse : GoodIn wsX0_foldRoundModulo (va_wsS RX0 64 yX1_inverse wsX1_inverse) := goodIn_app (goodIn_of _ (by decide +kernel)) ggX0_foldRoundModulo_X1_inverse
set_option maxRecDepth 20000 in
theorem ggX0_foldRoundModulo_X0_turnBack : GoodIn wsX0_foldRoundModulo wsX0_turnBack := goodIn_r _ [31, 32, 33, 34, 14, 35, 16, 25, 26, 5, 27, 8, 9, 10, 36, 37, 38] (by decide +kernel) (by decide +kernel)
set_option maxRecDepth 20000 in
theorem gX0_foldRoundModulo_X0_turnBack : GoodIn wsX0_foldRoundModulo (wsV RX0 67 RX0 yX0_turnBack wsX0_turnBack) := goodIn_app (goodIn_of _ (by decide +kernel)) ggX0_foldRoundModulo_X0_turnBack
theorem dX0_foldRoundModulo_0 : decode cX0_foldRoundModulo 0 = .ok (.iconst 1, 1) := by decide +kernel
theorem dX0_foldRoundModulo_1 : decode cX0_foldRoundModulo 1 = .ok (.iload_n 1, 1) := by decide +kernel
theorem dX0_foldRoundModulo_2 : decode cX0_foldRoundModulo 2 = .ok (.ishl, 1) := by decide +kernel
theorem dX0_foldRoundModulo_3 : decode cX0_foldRoundModulo 3 = .ok (.istore_n 3, 1) := by decide +kernel
theorem dX0_foldRoundModulo_4 : decode cX0_foldRoundModulo 4 = .ok (.iload_n 1, 1) := by decide +kernel
theorem dX0_foldRoundModulo_5 : decode cX0_foldRoundModulo 5 = .ok (.iload_n 2, 1) := by decide +kernel
theorem dX0_foldRoundModulo_6 : decode cX0_foldRoundModulo 6 = .ok (.invokestatic 52, 3) := by decide +kernel
theorem dX0_foldRoundModulo_9 : decode cX0_foldRoundModulo 9 = .ok (.lstore 4, 2) := by decide +kernel
theorem dX0_foldRoundModulo_11 : decode cX0_foldRoundModulo 11 = .ok (.aload_n 0, 1) := by decide +kernel
theorem dX0_foldRoundModulo_12 : decode cX0_foldRoundModulo 12 = .ok (.lload 4, 2) := by decide +kernel
theorem dX0_foldRoundModulo_14 : decode cX0_foldRoundModulo 14 = .ok (.iload_n 3, 1) := by decide +kernel
theorem dX0_foldRoundModulo_15 : decode cX0_foldRoundModulo 15 = .ok (.iconst 2, 1) := by decide +kernel
theorem dX0_foldRoundModulo_16 : decode cX0_foldRoundModulo 16 = .ok (.idiv, 1) := by decide +kernel
theorem dX0_foldRoundModulo_17 : decode cX0_foldRoundModulo 17 = .ok (.iload_n 2, 1) := by decide +kernel
theorem dX0_foldRoundModulo_18 : decode cX0_foldRoundModulo 18 = .ok (.invokevirtual 56, 3) := by decide +kernel
theorem dX0_foldRoundModulo_21 : decode cX0_foldRoundModulo 21 = .ok (.aload_n 0, 1) := by decide +kernel
theorem dX0_foldRoundModulo_22 : decode cX0_foldRoundModulo 22 = .ok (.aload_n 0, 1) := by decide +kernel
theorem dX0_foldRoundModulo_23 : decode cX0_foldRoundModulo 23 = .ok (.getfield 9, 3) := by decide +kernel
theorem dX0_foldRoundModulo_26 : decode cX0_foldRoundModulo 26 = .ok (.iload_n 1, 1) := by decide +kernel
theorem dX0_foldRoundModulo_27 : decode cX0_foldRoundModulo 27 = .ok (.iload_n 2, 1) := by decide +kernel
theorem dX0_foldRoundModulo_28 : decode cX0_foldRoundModulo 28 = .ok (.invokevirtual 60, 3) := by decide +kernel
theorem dX0_foldRoundModulo_31 : decode cX0_foldRoundModulo 31 = .ok (.aload_n 0, 1) := by decide +kernel
theorem dX0_foldRoundModulo_32 : decode cX0_foldRoundModulo 32 = .ok (.aload_n 0, 1) := by decide +kernel
theorem dX0_foldRoundModulo_33 : decode cX0_foldRoundModulo 33 = .ok (.getfield 15, 3) := by decide +kernel
theorem dX0_foldRoundModulo_36 : decode cX0_foldRoundModulo 36 = .ok (.iload_n 1, 1) := by decide +kernel
theorem dX0_foldRoundModulo_37 : decode cX0_foldRoundModulo 37 = .ok (.iload_n 2, 1) := by decide +kernel
theorem dX0_foldRoundModulo_38 : decode cX0_foldRoundModulo 38 = .ok (.invokevirtual 60, 3) := by decide +kernel
theorem dX0_foldRoundModulo_41 : decode cX0_foldRoundModulo 41 = .ok (.iconst 0, 1) := by decide +kernel
theorem dX0_foldRoundModulo_42 : decode cX0_foldRoundModulo 42 = .ok (.istore 6, 2) := by decide +kernel
theorem dX0_foldRoundModulo_44 : decode cX0_foldRoundModulo 44 = .ok (.iload 6, 2) := by decide +kernel
theorem dX0_foldRoundModulo_46 : decode cX0_foldRoundModulo 46 = .ok (.iload_n 3, 1) := by decide +kernel
theorem dX0_foldRoundModulo_47 : decode cX0_foldRoundModulo 47 = .ok (.if_icmp .ge 34, 3) := by decide +kernel
theorem dX0_foldRoundModulo_50 : decode cX0_foldRoundModulo 50 = .ok (.aload_n 0, 1) := by decide +kernel
theorem dX0_foldRoundModulo_51 : decode cX0_foldRoundModulo 51 = .ok (.getfield 9, 3) := by decide +kernel
theorem dX0_foldRoundModulo_54 : decode cX0_foldRoundModulo 54 = .ok (.iload 6, 2) := by decide +kernel
theorem dX0_foldRoundModulo_56 : decode cX0_foldRoundModulo 56 = .ok (.aload_n 0, 1) := by decide +kernel
theorem dX0_foldRoundModulo_57 : decode cX0_foldRoundModulo 57 = .ok (.getfield 9, 3) := by decide +kernel
theorem dX0_foldRoundModulo_60 : decode cX0_foldRoundModulo 60 = .ok (.iload 6, 2) := by decide +kernel
theorem dX0_foldRoundModulo_62 : decode cX0_foldRoundModulo 62 = .ok (.laload, 1) := by decide +kernel
theorem dX0_foldRoundModulo_63 : decode cX0_foldRoundModulo 63 = .ok (.aload_n 0, 1) := by decide +kernel
theorem dX0_foldRoundModulo_64 : decode cX0_foldRoundModulo 64 = .ok (.getfield 15, 3) := by decide +kernel
theorem dX0_foldRoundModulo_67 : decode cX0_foldRoundModulo 67 = .ok (.iload 6, 2) := by decide +kernel
theorem dX0_foldRoundModulo_69 : decode cX0_foldRoundModulo 69 = .ok (.laload, 1) := by decide +kernel
theorem dX0_foldRoundModulo_70 : decode cX0_foldRoundModulo 70 = .ok (.lmul, 1) := by decide +kernel
theorem dX0_foldRoundModulo_71 : decode cX0_foldRoundModulo 71 = .ok (.iload_n 2, 1) := by decide +kernel
theorem dX0_foldRoundModulo_72 : decode cX0_foldRoundModulo 72 = .ok (.i2l, 1) := by decide +kernel
theorem dX0_foldRoundModulo_73 : decode cX0_foldRoundModulo 73 = .ok (.lrem, 1) := by decide +kernel
theorem dX0_foldRoundModulo_74 : decode cX0_foldRoundModulo 74 = .ok (.lastore, 1) := by decide +kernel
theorem dX0_foldRoundModulo_75 : decode cX0_foldRoundModulo 75 = .ok (.iinc 6 1, 3) := by decide +kernel
theorem dX0_foldRoundModulo_78 : decode cX0_foldRoundModulo 78 = .ok (.goto (-34), 3) := by decide +kernel
theorem dX0_foldRoundModulo_81 : decode cX0_foldRoundModulo 81 = .ok (.aload_n 0, 1) := by decide +kernel
theorem dX0_foldRoundModulo_82 : decode cX0_foldRoundModulo 82 = .ok (.lload 4, 2) := by decide +kernel
theorem dX0_foldRoundModulo_84 : decode cX0_foldRoundModulo 84 = .ok (.iload_n 2, 1) := by decide +kernel
theorem dX0_foldRoundModulo_85 : decode cX0_foldRoundModulo 85 = .ok (.invokestatic 64, 3) := by decide +kernel
theorem dX0_foldRoundModulo_88 : decode cX0_foldRoundModulo 88 = .ok (.iload_n 3, 1) := by decide +kernel
theorem dX0_foldRoundModulo_89 : decode cX0_foldRoundModulo 89 = .ok (.iconst 2, 1) := by decide +kernel
theorem dX0_foldRoundModulo_90 : decode cX0_foldRoundModulo 90 = .ok (.idiv, 1) := by decide +kernel
theorem dX0_foldRoundModulo_91 : decode cX0_foldRoundModulo 91 = .ok (.iload_n 2, 1) := by decide +kernel
theorem dX0_foldRoundModulo_92 : decode cX0_foldRoundModulo 92 = .ok (.invokevirtual 56, 3) := by decide +kernel
theorem dX0_foldRoundModulo_95 : decode cX0_foldRoundModulo 95 = .ok (.aload_n 0, 1) := by decide +kernel
theorem dX0_foldRoundModulo_96 : decode cX0_foldRoundModulo 96 = .ok (.aload_n 0, 1) := by decide +kernel
theorem dX0_foldRoundModulo_97 : decode cX0_foldRoundModulo 97 = .ok (.getfield 9, 3) := by decide +kernel
theorem dX0_foldRoundModulo_100 : decode cX0_foldRoundModulo 100 = .ok (.iload_n 1, 1) := by decide +kernel
theorem dX0_foldRoundModulo_101 : decode cX0_foldRoundModulo 101 = .ok (.iload_n 2, 1) := by decide +kernel
theorem dX0_foldRoundModulo_102 : decode cX0_foldRoundModulo 102 = .ok (.invokevirtual 67, 3) := by decide +kernel
theorem dX0_foldRoundModulo_105 : decode cX0_foldRoundModulo 105 = .ok (.return_, 1) := by decide +kernel
theorem dX0_listRootPowers_0 : decode cX0_listRootPowers 0 = .ok (.aload_n 0, 1) := by decide +kernel
theorem dX0_listRootPowers_1 : decode cX0_listRootPowers 1 = .ok (.getfield 18, 3) := by decide +kernel
theorem dX0_listRootPowers_4 : decode cX0_listRootPowers 4 = .ok (.iconst 0, 1) := by decide +kernel
theorem dX0_listRootPowers_5 : decode cX0_listRootPowers 5 = .ok (.lconst 1, 1) := by decide +kernel
theorem dX0_listRootPowers_6 : decode cX0_listRootPowers 6 = .ok (.lastore, 1) := by decide +kernel
theorem dX0_listRootPowers_7 : decode cX0_listRootPowers 7 = .ok (.iconst 1, 1) := by decide +kernel
theorem dX0_listRootPowers_8 : decode cX0_listRootPowers 8 = .ok (.istore 5, 2) := by decide +kernel
theorem dX0_listRootPowers_10 : decode cX0_listRootPowers 10 = .ok (.iload 5, 2) := by decide +kernel
theorem dX0_listRootPowers_12 : decode cX0_listRootPowers 12 = .ok (.iload_n 3, 1) := by decide +kernel
theorem dX0_listRootPowers_13 : decode cX0_listRootPowers 13 = .ok (.if_icmp .ge 31, 3) := by decide +kernel
theorem dX0_listRootPowers_16 : decode cX0_listRootPowers 16 = .ok (.aload_n 0, 1) := by decide +kernel
theorem dX0_listRootPowers_17 : decode cX0_listRootPowers 17 = .ok (.getfield 18, 3) := by decide +kernel
theorem dX0_listRootPowers_20 : decode cX0_listRootPowers 20 = .ok (.iload 5, 2) := by decide +kernel
theorem dX0_listRootPowers_22 : decode cX0_listRootPowers 22 = .ok (.aload_n 0, 1) := by decide +kernel
theorem dX0_listRootPowers_23 : decode cX0_listRootPowers 23 = .ok (.getfield 18, 3) := by decide +kernel
theorem dX0_listRootPowers_26 : decode cX0_listRootPowers 26 = .ok (.iload 5, 2) := by decide +kernel
theorem dX0_listRootPowers_28 : decode cX0_listRootPowers 28 = .ok (.iconst 1, 1) := by decide +kernel
theorem dX0_listRootPowers_29 : decode cX0_listRootPowers 29 = .ok (.isub, 1) := by decide +kernel
theorem dX0_listRootPowers_30 : decode cX0_listRootPowers 30 = .ok (.laload, 1) := by decide +kernel
theorem dX0_listRootPowers_31 : decode cX0_listRootPowers 31 = .ok (.lload_n 1, 1) := by decide +kernel
theorem dX0_listRootPowers_32 : decode cX0_listRootPowers 32 = .ok (.lmul, 1) := by decide +kernel
theorem dX0_listRootPowers_33 : decode cX0_listRootPowers 33 = .ok (.iload 4, 2) := by decide +kernel
theorem dX0_listRootPowers_35 : decode cX0_listRootPowers 35 = .ok (.i2l, 1) := by decide +kernel
theorem dX0_listRootPowers_36 : decode cX0_listRootPowers 36 = .ok (.lrem, 1) := by decide +kernel
theorem dX0_listRootPowers_37 : decode cX0_listRootPowers 37 = .ok (.lastore, 1) := by decide +kernel
theorem dX0_listRootPowers_38 : decode cX0_listRootPowers 38 = .ok (.iinc 5 1, 3) := by decide +kernel
theorem dX0_listRootPowers_41 : decode cX0_listRootPowers 41 = .ok (.goto (-31), 3) := by decide +kernel
theorem dX0_listRootPowers_44 : decode cX0_listRootPowers 44 = .ok (.return_, 1) := by decide +kernel
set_option maxRecDepth 20000 in
theorem ggX0_turnIntoValues_X0_splitBlock : GoodIn wsX0_turnIntoValues wsX0_splitBlock := goodIn_r _ [5, 6, 7, 8, 9] (by decide +kernel) (by decide +kernel)
set_option maxRecDepth 20000 in
theorem gX0_turnIntoValues_X0_splitBlock : GoodIn wsX0_turnIntoValues (wsV RX0 70 RX0 yX0_splitBlock wsX0_splitBlock) := goodIn_app (goodIn_of _ (by decide +kernel)) ggX0_turnIntoValues_X0_splitBlock
theorem dX0_turnIntoValues_0 : decode cX0_turnIntoValues 0 = .ok (.iconst 1, 1) := by decide +kernel
theorem dX0_turnIntoValues_1 : decode cX0_turnIntoValues 1 = .ok (.iload_n 2, 1) := by decide +kernel
theorem dX0_turnIntoValues_2 : decode cX0_turnIntoValues 2 = .ok (.ishl, 1) := by decide +kernel
theorem dX0_turnIntoValues_3 : decode cX0_turnIntoValues 3 = .ok (.istore 4, 2) := by decide +kernel
theorem dX0_turnIntoValues_5 : decode cX0_turnIntoValues 5 = .ok (.iload_n 2, 1) := by decide +kernel
theorem dX0_turnIntoValues_6 : decode cX0_turnIntoValues 6 = .ok (.iconst 1, 1) := by decide +kernel
theorem dX0_turnIntoValues_7 : decode cX0_turnIntoValues 7 = .ok (.isub, 1) := by decide +kernel
theorem dX0_turnIntoValues_8 : decode cX0_turnIntoValues 8 = .ok (.istore 5, 2) := by decide +kernel
theorem dX0_turnIntoValues_10 : decode cX0_turnIntoValues 10 = .ok (.iload 5, 2) := by decide +kernel
theorem dX0_turnIntoValues_12 : decode cX0_turnIntoValues 12 = .ok (.ifCond .lt 54, 3) := by decide +kernel
theorem dX0_turnIntoValues_15 : decode cX0_turnIntoValues 15 = .ok (.iconst 1, 1) := by decide +kernel
theorem dX0_turnIntoValues_16 : decode cX0_turnIntoValues 16 = .ok (.iload 5, 2) := by decide +kernel
theorem dX0_turnIntoValues_18 : decode cX0_turnIntoValues 18 = .ok (.ishl, 1) := by decide +kernel
theorem dX0_turnIntoValues_19 : decode cX0_turnIntoValues 19 = .ok (.istore 6, 2) := by decide +kernel
theorem dX0_turnIntoValues_21 : decode cX0_turnIntoValues 21 = .ok (.iconst 0, 1) := by decide +kernel
theorem dX0_turnIntoValues_22 : decode cX0_turnIntoValues 22 = .ok (.istore 7, 2) := by decide +kernel
theorem dX0_turnIntoValues_24 : decode cX0_turnIntoValues 24 = .ok (.iload 7, 2) := by decide +kernel
theorem dX0_turnIntoValues_26 : decode cX0_turnIntoValues 26 = .ok (.iload 4, 2) := by decide +kernel
theorem dX0_turnIntoValues_28 : decode cX0_turnIntoValues 28 = .ok (.if_icmp .ge 32, 3) := by decide +kernel
theorem dX0_turnIntoValues_31 : decode cX0_turnIntoValues 31 = .ok (.aload_n 0, 1) := by decide +kernel
theorem dX0_turnIntoValues_32 : decode cX0_turnIntoValues 32 = .ok (.aload_n 1, 1) := by decide +kernel
theorem dX0_turnIntoValues_33 : decode cX0_turnIntoValues 33 = .ok (.iload 7, 2) := by decide +kernel
theorem dX0_turnIntoValues_35 : decode cX0_turnIntoValues 35 = .ok (.iload 6, 2) := by decide +kernel
theorem dX0_turnIntoValues_37 : decode cX0_turnIntoValues 37 = .ok (.iload 4, 2) := by decide +kernel
theorem dX0_turnIntoValues_39 : decode cX0_turnIntoValues 39 = .ok (.iconst 2, 1) := by decide +kernel
theorem dX0_turnIntoValues_40 : decode cX0_turnIntoValues 40 = .ok (.iload 6, 2) := by decide +kernel
theorem dX0_turnIntoValues_42 : decode cX0_turnIntoValues 42 = .ok (.imul, 1) := by decide +kernel
theorem dX0_turnIntoValues_43 : decode cX0_turnIntoValues 43 = .ok (.idiv, 1) := by decide +kernel
theorem dX0_turnIntoValues_44 : decode cX0_turnIntoValues 44 = .ok (.iload_n 3, 1) := by decide +kernel
theorem dX0_turnIntoValues_45 : decode cX0_turnIntoValues 45 = .ok (.invokevirtual 70, 3) := by decide +kernel
theorem dX0_turnIntoValues_48 : decode cX0_turnIntoValues 48 = .ok (.iload 7, 2) := by decide +kernel
theorem dX0_turnIntoValues_50 : decode cX0_turnIntoValues 50 = .ok (.iconst 2, 1) := by decide +kernel
theorem dX0_turnIntoValues_51 : decode cX0_turnIntoValues 51 = .ok (.iload 6, 2) := by decide +kernel
theorem dX0_turnIntoValues_53 : decode cX0_turnIntoValues 53 = .ok (.imul, 1) := by decide +kernel
theorem dX0_turnIntoValues_54 : decode cX0_turnIntoValues 54 = .ok (.iadd, 1) := by decide +kernel
theorem dX0_turnIntoValues_55 : decode cX0_turnIntoValues 55 = .ok (.istore 7, 2) := by decide +kernel
theorem dX0_turnIntoValues_57 : decode cX0_turnIntoValues 57 = .ok (.goto (-33), 3) := by decide +kernel
theorem dX0_turnIntoValues_60 : decode cX0_turnIntoValues 60 = .ok (.iinc 5 (-1), 3) := by decide +kernel
theorem dX0_turnIntoValues_63 : decode cX0_turnIntoValues 63 = .ok (.goto (-53), 3) := by decide +kernel
theorem dX0_turnIntoValues_66 : decode cX0_turnIntoValues 66 = .ok (.return_, 1) := by decide +kernel
set_option maxRecDepth 20000 in
theorem ggX0_turnBack_X0_joinBlock : GoodIn wsX0_turnBack wsX0_joinBlock := goodIn_r _ [5, 6, 14, 15, 16] (by decide +kernel) (by decide +kernel)
set_option maxRecDepth 20000 in
theorem gX0_turnBack_X0_joinBlock : GoodIn wsX0_turnBack (wsV RX0 74 RX0 yX0_joinBlock wsX0_joinBlock) := goodIn_app (goodIn_of _ (by decide +kernel)) ggX0_turnBack_X0_joinBlock
set_option maxRecDepth 20000 in
theorem ggX0_turnBack_X1_inverse : GoodIn wsX0_turnBack wsX1_inverse := goodIn_r _ [10, 11, 12, 9, 13] (by decide +kernel) (by decide +kernel)
set_option maxRecDepth 20000 in
theorem gX0_turnBack_X1_inverse : GoodIn wsX0_turnBack (va_wsS RX0 64 yX1_inverse wsX1_inverse) := goodIn_app (goodIn_of _ (by decide +kernel)) ggX0_turnBack_X1_inverse
theorem dX0_turnBack_0 : decode cX0_turnBack 0 = .ok (.iconst 1, 1) := by decide +kernel
theorem dX0_turnBack_1 : decode cX0_turnBack 1 = .ok (.iload_n 2, 1) := by decide +kernel
theorem dX0_turnBack_2 : decode cX0_turnBack 2 = .ok (.ishl, 1) := by decide +kernel
theorem dX0_turnBack_3 : decode cX0_turnBack 3 = .ok (.istore 4, 2) := by decide +kernel
theorem dX0_turnBack_5 : decode cX0_turnBack 5 = .ok (.iconst 0, 1) := by decide +kernel
theorem dX0_turnBack_6 : decode cX0_turnBack 6 = .ok (.istore 5, 2) := by decide +kernel
theorem dX0_turnBack_8 : decode cX0_turnBack 8 = .ok (.iload 5, 2) := by decide +kernel
theorem dX0_turnBack_10 : decode cX0_turnBack 10 = .ok (.iload_n 2, 1) := by decide +kernel
theorem dX0_turnBack_11 : decode cX0_turnBack 11 = .ok (.if_icmp .ge 54, 3) := by decide +kernel
theorem dX0_turnBack_14 : decode cX0_turnBack 14 = .ok (.iconst 1, 1) := by decide +kernel
theorem dX0_turnBack_15 : decode cX0_turnBack 15 = .ok (.iload 5, 2) := by decide +kernel
theorem dX0_turnBack_17 : decode cX0_turnBack 17 = .ok (.ishl, 1) := by decide +kernel
theorem dX0_turnBack_18 : decode cX0_turnBack 18 = .ok (.istore 6, 2) := by decide +kernel
theorem dX0_turnBack_20 : decode cX0_turnBack 20 = .ok (.iconst 0, 1) := by decide +kernel
theorem dX0_turnBack_21 : decode cX0_turnBack 21 = .ok (.istore 7, 2) := by decide +kernel
theorem dX0_turnBack_23 : decode cX0_turnBack 23 = .ok (.iload 7, 2) := by decide +kernel
theorem dX0_turnBack_25 : decode cX0_turnBack 25 = .ok (.iload 4, 2) := by decide +kernel
theorem dX0_turnBack_27 : decode cX0_turnBack 27 = .ok (.if_icmp .ge 32, 3) := by decide +kernel
theorem dX0_turnBack_30 : decode cX0_turnBack 30 = .ok (.aload_n 0, 1) := by decide +kernel
theorem dX0_turnBack_31 : decode cX0_turnBack 31 = .ok (.aload_n 1, 1) := by decide +kernel
theorem dX0_turnBack_32 : decode cX0_turnBack 32 = .ok (.iload 7, 2) := by decide +kernel
theorem dX0_turnBack_34 : decode cX0_turnBack 34 = .ok (.iload 6, 2) := by decide +kernel
theorem dX0_turnBack_36 : decode cX0_turnBack 36 = .ok (.iload 4, 2) := by decide +kernel
theorem dX0_turnBack_38 : decode cX0_turnBack 38 = .ok (.iconst 2, 1) := by decide +kernel
theorem dX0_turnBack_39 : decode cX0_turnBack 39 = .ok (.iload 6, 2) := by decide +kernel
theorem dX0_turnBack_41 : decode cX0_turnBack 41 = .ok (.imul, 1) := by decide +kernel
theorem dX0_turnBack_42 : decode cX0_turnBack 42 = .ok (.idiv, 1) := by decide +kernel
theorem dX0_turnBack_43 : decode cX0_turnBack 43 = .ok (.iload_n 3, 1) := by decide +kernel
theorem dX0_turnBack_44 : decode cX0_turnBack 44 = .ok (.invokevirtual 74, 3) := by decide +kernel
theorem dX0_turnBack_47 : decode cX0_turnBack 47 = .ok (.iload 7, 2) := by decide +kernel
theorem dX0_turnBack_49 : decode cX0_turnBack 49 = .ok (.iconst 2, 1) := by decide +kernel
theorem dX0_turnBack_50 : decode cX0_turnBack 50 = .ok (.iload 6, 2) := by decide +kernel
theorem dX0_turnBack_52 : decode cX0_turnBack 52 = .ok (.imul, 1) := by decide +kernel
theorem dX0_turnBack_53 : decode cX0_turnBack 53 = .ok (.iadd, 1) := by decide +kernel
theorem dX0_turnBack_54 : decode cX0_turnBack 54 = .ok (.istore 7, 2) := by decide +kernel
theorem dX0_turnBack_56 : decode cX0_turnBack 56 = .ok (.goto (-33), 3) := by decide +kernel
theorem dX0_turnBack_59 : decode cX0_turnBack 59 = .ok (.iinc 5 1, 3) := by decide +kernel
theorem dX0_turnBack_62 : decode cX0_turnBack 62 = .ok (.goto (-54), 3) := by decide +kernel
theorem dX0_turnBack_65 : decode cX0_turnBack 65 = .ok (.iload 4, 2) := by decide +kernel
theorem dX0_turnBack_67 : decode cX0_turnBack 67 = .ok (.i2l, 1) := by decide +kernel
theorem dX0_turnBack_68 : decode cX0_turnBack 68 = .ok (.iload_n 3, 1) := by decide +kernel
theorem dX0_turnBack_69 : decode cX0_turnBack 69 = .ok (.invokestatic 64, 3) := by decide +kernel
theorem dX0_turnBack_72 : decode cX0_turnBack 72 = .ok (.lstore 5, 2) := by decide +kernel
theorem dX0_turnBack_74 : decode cX0_turnBack 74 = .ok (.iconst 0, 1) := by decide +kernel
theorem dX0_turnBack_75 : decode cX0_turnBack 75 = .ok (.istore 7, 2) := by decide +kernel
theorem dX0_turnBack_77 : decode cX0_turnBack 77 = .ok (.iload 7, 2) := by decide +kernel
theorem dX0_turnBack_79 : decode cX0_turnBack 79 = .ok (.iload 4, 2) := by decide +kernel
theorem dX0_turnBack_81 : decode cX0_turnBack 81 = .ok (.if_icmp .ge 23, 3) := by decide +kernel
theorem dX0_turnBack_84 : decode cX0_turnBack 84 = .ok (.aload_n 1, 1) := by decide +kernel
theorem dX0_turnBack_85 : decode cX0_turnBack 85 = .ok (.iload 7, 2) := by decide +kernel
theorem dX0_turnBack_87 : decode cX0_turnBack 87 = .ok (.aload_n 1, 1) := by decide +kernel
theorem dX0_turnBack_88 : decode cX0_turnBack 88 = .ok (.iload 7, 2) := by decide +kernel
theorem dX0_turnBack_90 : decode cX0_turnBack 90 = .ok (.laload, 1) := by decide +kernel
theorem dX0_turnBack_91 : decode cX0_turnBack 91 = .ok (.lload 5, 2) := by decide +kernel
theorem dX0_turnBack_93 : decode cX0_turnBack 93 = .ok (.lmul, 1) := by decide +kernel
theorem dX0_turnBack_94 : decode cX0_turnBack 94 = .ok (.iload_n 3, 1) := by decide +kernel
theorem dX0_turnBack_95 : decode cX0_turnBack 95 = .ok (.i2l, 1) := by decide +kernel
theorem dX0_turnBack_96 : decode cX0_turnBack 96 = .ok (.lrem, 1) := by decide +kernel
theorem dX0_turnBack_97 : decode cX0_turnBack 97 = .ok (.lastore, 1) := by decide +kernel
theorem dX0_turnBack_98 : decode cX0_turnBack 98 = .ok (.iinc 7 1, 3) := by decide +kernel
theorem dX0_turnBack_101 : decode cX0_turnBack 101 = .ok (.goto (-24), 3) := by decide +kernel
theorem dX0_turnBack_104 : decode cX0_turnBack 104 = .ok (.return_, 1) := by decide +kernel
theorem dX0_splitBlock_0 : decode cX0_splitBlock 0 = .ok (.iconst 0, 1) := by decide +kernel
theorem dX0_splitBlock_1 : decode cX0_splitBlock 1 = .ok (.istore 6, 2) := by decide +kernel
theorem dX0_splitBlock_3 : decode cX0_splitBlock 3 = .ok (.iload 6, 2) := by decide +kernel
theorem dX0_splitBlock_5 : decode cX0_splitBlock 5 = .ok (.iload_n 3, 1) := by decide +kernel
theorem dX0_splitBlock_6 : decode cX0_splitBlock 6 = .ok (.if_icmp .ge 92, 3) := by decide +kernel
theorem dX0_splitBlock_9 : decode cX0_splitBlock 9 = .ok (.aload_n 1, 1) := by decide +kernel
theorem dX0_splitBlock_10 : decode cX0_splitBlock 10 = .ok (.iload_n 2, 1) := by decide +kernel
theorem dX0_splitBlock_11 : decode cX0_splitBlock 11 = .ok (.iload 6, 2) := by decide +kernel
theorem dX0_splitBlock_13 : decode cX0_splitBlock 13 = .ok (.iadd, 1) := by decide +kernel
theorem dX0_splitBlock_14 : decode cX0_splitBlock 14 = .ok (.laload, 1) := by decide +kernel
theorem dX0_splitBlock_15 : decode cX0_splitBlock 15 = .ok (.lstore 7, 2) := by decide +kernel
theorem dX0_splitBlock_17 : decode cX0_splitBlock 17 = .ok (.aload_n 1, 1) := by decide +kernel
theorem dX0_splitBlock_18 : decode cX0_splitBlock 18 = .ok (.iload_n 2, 1) := by decide +kernel
theorem dX0_splitBlock_19 : decode cX0_splitBlock 19 = .ok (.iload_n 3, 1) := by decide +kernel
theorem dX0_splitBlock_20 : decode cX0_splitBlock 20 = .ok (.iadd, 1) := by decide +kernel
theorem dX0_splitBlock_21 : decode cX0_splitBlock 21 = .ok (.iload 6, 2) := by decide +kernel
theorem dX0_splitBlock_23 : decode cX0_splitBlock 23 = .ok (.iadd, 1) := by decide +kernel
theorem dX0_splitBlock_24 : decode cX0_splitBlock 24 = .ok (.laload, 1) := by decide +kernel
theorem dX0_splitBlock_25 : decode cX0_splitBlock 25 = .ok (.lstore 9, 2) := by decide +kernel
theorem dX0_splitBlock_27 : decode cX0_splitBlock 27 = .ok (.lload 7, 2) := by decide +kernel
theorem dX0_splitBlock_29 : decode cX0_splitBlock 29 = .ok (.lload 9, 2) := by decide +kernel
theorem dX0_splitBlock_31 : decode cX0_splitBlock 31 = .ok (.ladd, 1) := by decide +kernel
theorem dX0_splitBlock_32 : decode cX0_splitBlock 32 = .ok (.lstore 11, 2) := by decide +kernel
theorem dX0_splitBlock_34 : decode cX0_splitBlock 34 = .ok (.aload_n 1, 1) := by decide +kernel
theorem dX0_splitBlock_35 : decode cX0_splitBlock 35 = .ok (.iload_n 2, 1) := by decide +kernel
theorem dX0_splitBlock_36 : decode cX0_splitBlock 36 = .ok (.iload 6, 2) := by decide +kernel
theorem dX0_splitBlock_38 : decode cX0_splitBlock 38 = .ok (.iadd, 1) := by decide +kernel
theorem dX0_splitBlock_39 : decode cX0_splitBlock 39 = .ok (.lload 11, 2) := by decide +kernel
theorem dX0_splitBlock_41 : decode cX0_splitBlock 41 = .ok (.iload 5, 2) := by decide +kernel
theorem dX0_splitBlock_43 : decode cX0_splitBlock 43 = .ok (.i2l, 1) := by decide +kernel
theorem dX0_splitBlock_44 : decode cX0_splitBlock 44 = .ok (.lcmp, 1) := by decide +kernel
theorem dX0_splitBlock_45 : decode cX0_splitBlock 45 = .ok (.ifCond .lt 12, 3) := by decide +kernel
theorem dX0_splitBlock_48 : decode cX0_splitBlock 48 = .ok (.lload 11, 2) := by decide +kernel
theorem dX0_splitBlock_50 : decode cX0_splitBlock 50 = .ok (.iload 5, 2) := by decide +kernel
theorem dX0_splitBlock_52 : decode cX0_splitBlock 52 = .ok (.i2l, 1) := by decide +kernel
theorem dX0_splitBlock_53 : decode cX0_splitBlock 53 = .ok (.lsub, 1) := by decide +kernel
theorem dX0_splitBlock_54 : decode cX0_splitBlock 54 = .ok (.goto 5, 3) := by decide +kernel
theorem dX0_splitBlock_57 : decode cX0_splitBlock 57 = .ok (.lload 11, 2) := by decide +kernel
theorem dX0_splitBlock_59 : decode cX0_splitBlock 59 = .ok (.lastore, 1) := by decide +kernel
theorem dX0_splitBlock_60 : decode cX0_splitBlock 60 = .ok (.aload_n 1, 1) := by decide +kernel
theorem dX0_splitBlock_61 : decode cX0_splitBlock 61 = .ok (.iload_n 2, 1) := by decide +kernel
theorem dX0_splitBlock_62 : decode cX0_splitBlock 62 = .ok (.iload_n 3, 1) := by decide +kernel
theorem dX0_splitBlock_63 : decode cX0_splitBlock 63 = .ok (.iadd, 1) := by decide +kernel
theorem dX0_splitBlock_64 : decode cX0_splitBlock 64 = .ok (.iload 6, 2) := by decide +kernel
theorem dX0_splitBlock_66 : decode cX0_splitBlock 66 = .ok (.iadd, 1) := by decide +kernel
theorem dX0_splitBlock_67 : decode cX0_splitBlock 67 = .ok (.lload 7, 2) := by decide +kernel
theorem dX0_splitBlock_69 : decode cX0_splitBlock 69 = .ok (.lload 9, 2) := by decide +kernel
theorem dX0_splitBlock_71 : decode cX0_splitBlock 71 = .ok (.lsub, 1) := by decide +kernel
theorem dX0_splitBlock_72 : decode cX0_splitBlock 72 = .ok (.iload 5, 2) := by decide +kernel
theorem dX0_splitBlock_74 : decode cX0_splitBlock 74 = .ok (.i2l, 1) := by decide +kernel
theorem dX0_splitBlock_75 : decode cX0_splitBlock 75 = .ok (.ladd, 1) := by decide +kernel
theorem dX0_splitBlock_76 : decode cX0_splitBlock 76 = .ok (.aload_n 0, 1) := by decide +kernel
theorem dX0_splitBlock_77 : decode cX0_splitBlock 77 = .ok (.getfield 18, 3) := by decide +kernel
theorem dX0_splitBlock_80 : decode cX0_splitBlock 80 = .ok (.iload 6, 2) := by decide +kernel
theorem dX0_splitBlock_82 : decode cX0_splitBlock 82 = .ok (.iload 4, 2) := by decide +kernel
theorem dX0_splitBlock_84 : decode cX0_splitBlock 84 = .ok (.imul, 1) := by decide +kernel
theorem dX0_splitBlock_85 : decode cX0_splitBlock 85 = .ok (.laload, 1) := by decide +kernel
theorem dX0_splitBlock_86 : decode cX0_splitBlock 86 = .ok (.lmul, 1) := by decide +kernel
theorem dX0_splitBlock_87 : decode cX0_splitBlock 87 = .ok (.iload 5, 2) := by decide +kernel
theorem dX0_splitBlock_89 : decode cX0_splitBlock 89 = .ok (.i2l, 1) := by decide +kernel
theorem dX0_splitBlock_90 : decode cX0_splitBlock 90 = .ok (.lrem, 1) := by decide +kernel
theorem dX0_splitBlock_91 : decode cX0_splitBlock 91 = .ok (.lastore, 1) := by decide +kernel
theorem dX0_splitBlock_92 : decode cX0_splitBlock 92 = .ok (.iinc 6 1, 3) := by decide +kernel
theorem dX0_splitBlock_95 : decode cX0_splitBlock 95 = .ok (.goto (-92), 3) := by decide +kernel
theorem dX0_splitBlock_98 : decode cX0_splitBlock 98 = .ok (.return_, 1) := by decide +kernel
theorem dX0_joinBlock_0 : decode cX0_joinBlock 0 = .ok (.iconst 0, 1) := by decide +kernel
theorem dX0_joinBlock_1 : decode cX0_joinBlock 1 = .ok (.istore 6, 2) := by decide +kernel
theorem dX0_joinBlock_3 : decode cX0_joinBlock 3 = .ok (.iload 6, 2) := by decide +kernel
theorem dX0_joinBlock_5 : decode cX0_joinBlock 5 = .ok (.iload_n 3, 1) := by decide +kernel
theorem dX0_joinBlock_6 : decode cX0_joinBlock 6 = .ok (.if_icmp .ge 108, 3) := by decide +kernel
theorem dX0_joinBlock_9 : decode cX0_joinBlock 9 = .ok (.aload_n 1, 1) := by decide +kernel
theorem dX0_joinBlock_10 : decode cX0_joinBlock 10 = .ok (.iload_n 2, 1) := by decide +kernel
theorem dX0_joinBlock_11 : decode cX0_joinBlock 11 = .ok (.iload 6, 2) := by decide +kernel
theorem dX0_joinBlock_13 : decode cX0_joinBlock 13 = .ok (.iadd, 1) := by decide +kernel
theorem dX0_joinBlock_14 : decode cX0_joinBlock 14 = .ok (.laload, 1) := by decide +kernel
theorem dX0_joinBlock_15 : decode cX0_joinBlock 15 = .ok (.lstore 7, 2) := by decide +kernel
theorem dX0_joinBlock_17 : decode cX0_joinBlock 17 = .ok (.aload_n 1, 1) := by decide +kernel
theorem dX0_joinBlock_18 : decode cX0_joinBlock 18 = .ok (.iload_n 2, 1) := by decide +kernel
theorem dX0_joinBlock_19 : decode cX0_joinBlock 19 = .ok (.iload_n 3, 1) := by decide +kernel
theorem dX0_joinBlock_20 : decode cX0_joinBlock 20 = .ok (.iadd, 1) := by decide +kernel
theorem dX0_joinBlock_21 : decode cX0_joinBlock 21 = .ok (.iload 6, 2) := by decide +kernel
theorem dX0_joinBlock_23 : decode cX0_joinBlock 23 = .ok (.iadd, 1) := by decide +kernel
theorem dX0_joinBlock_24 : decode cX0_joinBlock 24 = .ok (.laload, 1) := by decide +kernel
theorem dX0_joinBlock_25 : decode cX0_joinBlock 25 = .ok (.aload_n 0, 1) := by decide +kernel
theorem dX0_joinBlock_26 : decode cX0_joinBlock 26 = .ok (.getfield 18, 3) := by decide +kernel
theorem dX0_joinBlock_29 : decode cX0_joinBlock 29 = .ok (.iload 6, 2) := by decide +kernel
theorem dX0_joinBlock_31 : decode cX0_joinBlock 31 = .ok (.iload 4, 2) := by decide +kernel
theorem dX0_joinBlock_33 : decode cX0_joinBlock 33 = .ok (.imul, 1) := by decide +kernel
theorem dX0_joinBlock_34 : decode cX0_joinBlock 34 = .ok (.laload, 1) := by decide +kernel
theorem dX0_joinBlock_35 : decode cX0_joinBlock 35 = .ok (.lmul, 1) := by decide +kernel
theorem dX0_joinBlock_36 : decode cX0_joinBlock 36 = .ok (.iload 5, 2) := by decide +kernel
theorem dX0_joinBlock_38 : decode cX0_joinBlock 38 = .ok (.i2l, 1) := by decide +kernel
theorem dX0_joinBlock_39 : decode cX0_joinBlock 39 = .ok (.lrem, 1) := by decide +kernel
theorem dX0_joinBlock_40 : decode cX0_joinBlock 40 = .ok (.lstore 9, 2) := by decide +kernel
theorem dX0_joinBlock_42 : decode cX0_joinBlock 42 = .ok (.lload 7, 2) := by decide +kernel
theorem dX0_joinBlock_44 : decode cX0_joinBlock 44 = .ok (.lload 9, 2) := by decide +kernel
theorem dX0_joinBlock_46 : decode cX0_joinBlock 46 = .ok (.ladd, 1) := by decide +kernel
theorem dX0_joinBlock_47 : decode cX0_joinBlock 47 = .ok (.lstore 11, 2) := by decide +kernel
theorem dX0_joinBlock_49 : decode cX0_joinBlock 49 = .ok (.lload 7, 2) := by decide +kernel
theorem dX0_joinBlock_51 : decode cX0_joinBlock 51 = .ok (.lload 9, 2) := by decide +kernel
theorem dX0_joinBlock_53 : decode cX0_joinBlock 53 = .ok (.lsub, 1) := by decide +kernel
theorem dX0_joinBlock_54 : decode cX0_joinBlock 54 = .ok (.lstore 13, 2) := by decide +kernel
theorem dX0_joinBlock_56 : decode cX0_joinBlock 56 = .ok (.aload_n 1, 1) := by decide +kernel
theorem dX0_joinBlock_57 : decode cX0_joinBlock 57 = .ok (.iload_n 2, 1) := by decide +kernel
theorem dX0_joinBlock_58 : decode cX0_joinBlock 58 = .ok (.iload 6, 2) := by decide +kernel
theorem dX0_joinBlock_60 : decode cX0_joinBlock 60 = .ok (.iadd, 1) := by decide +kernel
theorem dX0_joinBlock_61 : decode cX0_joinBlock 61 = .ok (.lload 11, 2) := by decide +kernel
theorem dX0_joinBlock_63 : decode cX0_joinBlock 63 = .ok (.iload 5, 2) := by decide +kernel
theorem dX0_joinBlock_65 : decode cX0_joinBlock 65 = .ok (.i2l, 1) := by decide +kernel
theorem dX0_joinBlock_66 : decode cX0_joinBlock 66 = .ok (.lcmp, 1) := by decide +kernel
theorem dX0_joinBlock_67 : decode cX0_joinBlock 67 = .ok (.ifCond .lt 12, 3) := by decide +kernel
theorem dX0_joinBlock_70 : decode cX0_joinBlock 70 = .ok (.lload 11, 2) := by decide +kernel
theorem dX0_joinBlock_72 : decode cX0_joinBlock 72 = .ok (.iload 5, 2) := by decide +kernel
theorem dX0_joinBlock_74 : decode cX0_joinBlock 74 = .ok (.i2l, 1) := by decide +kernel
theorem dX0_joinBlock_75 : decode cX0_joinBlock 75 = .ok (.lsub, 1) := by decide +kernel
theorem dX0_joinBlock_76 : decode cX0_joinBlock 76 = .ok (.goto 5, 3) := by decide +kernel
theorem dX0_joinBlock_79 : decode cX0_joinBlock 79 = .ok (.lload 11, 2) := by decide +kernel
theorem dX0_joinBlock_81 : decode cX0_joinBlock 81 = .ok (.lastore, 1) := by decide +kernel
theorem dX0_joinBlock_82 : decode cX0_joinBlock 82 = .ok (.aload_n 1, 1) := by decide +kernel
theorem dX0_joinBlock_83 : decode cX0_joinBlock 83 = .ok (.iload_n 2, 1) := by decide +kernel
theorem dX0_joinBlock_84 : decode cX0_joinBlock 84 = .ok (.iload_n 3, 1) := by decide +kernel
theorem dX0_joinBlock_85 : decode cX0_joinBlock 85 = .ok (.iadd, 1) := by decide +kernel
theorem dX0_joinBlock_86 : decode cX0_joinBlock 86 = .ok (.iload 6, 2) := by decide +kernel
theorem dX0_joinBlock_88 : decode cX0_joinBlock 88 = .ok (.iadd, 1) := by decide +kernel
theorem dX0_joinBlock_89 : decode cX0_joinBlock 89 = .ok (.lload 13, 2) := by decide +kernel
theorem dX0_joinBlock_91 : decode cX0_joinBlock 91 = .ok (.lconst 0, 1) := by decide +kernel
theorem dX0_joinBlock_92 : decode cX0_joinBlock 92 = .ok (.lcmp, 1) := by decide +kernel
theorem dX0_joinBlock_93 : decode cX0_joinBlock 93 = .ok (.ifCond .ge 12, 3) := by decide +kernel
theorem dX0_joinBlock_96 : decode cX0_joinBlock 96 = .ok (.lload 13, 2) := by decide +kernel
theorem dX0_joinBlock_98 : decode cX0_joinBlock 98 = .ok (.iload 5, 2) := by decide +kernel
theorem dX0_joinBlock_100 : decode cX0_joinBlock 100 = .ok (.i2l, 1) := by decide +kernel
theorem dX0_joinBlock_101 : decode cX0_joinBlock 101 = .ok (.ladd, 1) := by decide +kernel
theorem dX0_joinBlock_102 : decode cX0_joinBlock 102 = .ok (.goto 5, 3) := by decide +kernel
theorem dX0_joinBlock_105 : decode cX0_joinBlock 105 = .ok (.lload 13, 2) := by decide +kernel
theorem dX0_joinBlock_107 : decode cX0_joinBlock 107 = .ok (.lastore, 1) := by decide +kernel
theorem dX0_joinBlock_108 : decode cX0_joinBlock 108 = .ok (.iinc 6 1, 3) := by decide +kernel
theorem dX0_joinBlock_111 : decode cX0_joinBlock 111 = .ok (.goto (-108), 3) := by decide +kernel
theorem dX0_joinBlock_114 : decode cX0_joinBlock 114 = .ok (.return_, 1) := by decide +kernel
theorem dX1_remainder_0 : decode cX1_remainder 0 = .ok (.lload_n 0, 1) := by decide +kernel
theorem dX1_remainder_1 : decode cX1_remainder 1 = .ok (.iload_n 2, 1) := by decide +kernel
theorem dX1_remainder_2 : decode cX1_remainder 2 = .ok (.i2l, 1) := by decide +kernel
theorem dX1_remainder_3 : decode cX1_remainder 3 = .ok (.lrem, 1) := by decide +kernel
theorem dX1_remainder_4 : decode cX1_remainder 4 = .ok (.lstore_n 3, 1) := by decide +kernel
theorem dX1_remainder_5 : decode cX1_remainder 5 = .ok (.lload_n 3, 1) := by decide +kernel
theorem dX1_remainder_6 : decode cX1_remainder 6 = .ok (.lconst 0, 1) := by decide +kernel
theorem dX1_remainder_7 : decode cX1_remainder 7 = .ok (.lcmp, 1) := by decide +kernel
theorem dX1_remainder_8 : decode cX1_remainder 8 = .ok (.ifCond .ge 10, 3) := by decide +kernel
theorem dX1_remainder_11 : decode cX1_remainder 11 = .ok (.lload_n 3, 1) := by decide +kernel
theorem dX1_remainder_12 : decode cX1_remainder 12 = .ok (.iload_n 2, 1) := by decide +kernel
theorem dX1_remainder_13 : decode cX1_remainder 13 = .ok (.i2l, 1) := by decide +kernel
theorem dX1_remainder_14 : decode cX1_remainder 14 = .ok (.ladd, 1) := by decide +kernel
theorem dX1_remainder_15 : decode cX1_remainder 15 = .ok (.goto 4, 3) := by decide +kernel
theorem dX1_remainder_18 : decode cX1_remainder 18 = .ok (.lload_n 3, 1) := by decide +kernel
theorem dX1_remainder_19 : decode cX1_remainder 19 = .ok (.lreturn, 1) := by decide +kernel
theorem dX1_raise_0 : decode cX1_raise 0 = .ok (.lconst 1, 1) := by decide +kernel
theorem dX1_raise_1 : decode cX1_raise 1 = .ok (.lstore 4, 2) := by decide +kernel
theorem dX1_raise_3 : decode cX1_raise 3 = .ok (.lload_n 0, 1) := by decide +kernel
theorem dX1_raise_4 : decode cX1_raise 4 = .ok (.lstore 6, 2) := by decide +kernel
theorem dX1_raise_6 : decode cX1_raise 6 = .ok (.iload_n 2, 1) := by decide +kernel
theorem dX1_raise_7 : decode cX1_raise 7 = .ok (.istore 8, 2) := by decide +kernel
theorem dX1_raise_9 : decode cX1_raise 9 = .ok (.iload 8, 2) := by decide +kernel
theorem dX1_raise_11 : decode cX1_raise 11 = .ok (.ifCond .le 40, 3) := by decide +kernel
theorem dX1_raise_14 : decode cX1_raise 14 = .ok (.iload 8, 2) := by decide +kernel
theorem dX1_raise_16 : decode cX1_raise 16 = .ok (.iconst 2, 1) := by decide +kernel
theorem dX1_raise_17 : decode cX1_raise 17 = .ok (.irem, 1) := by decide +kernel
theorem dX1_raise_18 : decode cX1_raise 18 = .ok (.iconst 1, 1) := by decide +kernel
theorem dX1_raise_19 : decode cX1_raise 19 = .ok (.if_icmp .ne 13, 3) := by decide +kernel
theorem dX1_raise_22 : decode cX1_raise 22 = .ok (.lload 4, 2) := by decide +kernel
theorem dX1_raise_24 : decode cX1_raise 24 = .ok (.lload 6, 2) := by decide +kernel
theorem dX1_raise_26 : decode cX1_raise 26 = .ok (.lmul, 1) := by decide +kernel
theorem dX1_raise_27 : decode cX1_raise 27 = .ok (.iload_n 3, 1) := by decide +kernel
theorem dX1_raise_28 : decode cX1_raise 28 = .ok (.i2l, 1) := by decide +kernel
theorem dX1_raise_29 : decode cX1_raise 29 = .ok (.lrem, 1) := by decide +kernel
theorem dX1_raise_30 : decode cX1_raise 30 = .ok (.lstore 4, 2) := by decide +kernel
theorem dX1_raise_32 : decode cX1_raise 32 = .ok (.lload 6, 2) := by decide +kernel
theorem dX1_raise_34 : decode cX1_raise 34 = .ok (.lload 6, 2) := by decide +kernel
theorem dX1_raise_36 : decode cX1_raise 36 = .ok (.lmul, 1) := by decide +kernel
theorem dX1_raise_37 : decode cX1_raise 37 = .ok (.iload_n 3, 1) := by decide +kernel
theorem dX1_raise_38 : decode cX1_raise 38 = .ok (.i2l, 1) := by decide +kernel
theorem dX1_raise_39 : decode cX1_raise 39 = .ok (.lrem, 1) := by decide +kernel
theorem dX1_raise_40 : decode cX1_raise 40 = .ok (.lstore 6, 2) := by decide +kernel
theorem dX1_raise_42 : decode cX1_raise 42 = .ok (.iload 8, 2) := by decide +kernel
theorem dX1_raise_44 : decode cX1_raise 44 = .ok (.iconst 2, 1) := by decide +kernel
theorem dX1_raise_45 : decode cX1_raise 45 = .ok (.idiv, 1) := by decide +kernel
theorem dX1_raise_46 : decode cX1_raise 46 = .ok (.istore 8, 2) := by decide +kernel
theorem dX1_raise_48 : decode cX1_raise 48 = .ok (.goto (-39), 3) := by decide +kernel
theorem dX1_raise_51 : decode cX1_raise 51 = .ok (.lload 4, 2) := by decide +kernel
theorem dX1_raise_53 : decode cX1_raise 53 = .ok (.lreturn, 1) := by decide +kernel
set_option maxRecDepth 20000 in
theorem ggX1_inverse_X1_raise : GoodIn wsX1_inverse wsX1_raise := goodIn_r _ [4] (by decide +kernel) (by decide +kernel)
set_option maxRecDepth 20000 in
theorem gX1_inverse_X1_raise : GoodIn wsX1_inverse (va_wsS RX1 7 yX1_raise wsX1_raise) := goodIn_app (goodIn_of _ (by decide +kernel)) ggX1_inverse_X1_raise
theorem dX1_inverse_0 : decode cX1_inverse 0 = .ok (.lload_n 0, 1) := by decide +kernel
theorem dX1_inverse_1 : decode cX1_inverse 1 = .ok (.iload_n 2, 1) := by decide +kernel
theorem dX1_inverse_2 : decode cX1_inverse 2 = .ok (.iconst 2, 1) := by decide +kernel
theorem dX1_inverse_3 : decode cX1_inverse 3 = .ok (.isub, 1) := by decide +kernel
theorem dX1_inverse_4 : decode cX1_inverse 4 = .ok (.iload_n 2, 1) := by decide +kernel
theorem dX1_inverse_5 : decode cX1_inverse 5 = .ok (.invokestatic 7, 3) := by decide +kernel
theorem dX1_inverse_8 : decode cX1_inverse 8 = .ok (.lreturn, 1) := by decide +kernel
set_option maxRecDepth 20000 in
theorem ggX1_rootOfOne_X1_raise : GoodIn wsX1_rootOfOne wsX1_raise := goodIn_r _ [5] (by decide +kernel) (by decide +kernel)
set_option maxRecDepth 20000 in
theorem gX1_rootOfOne_X1_raise : GoodIn wsX1_rootOfOne (va_wsS RX1 7 yX1_raise wsX1_raise) := goodIn_app (goodIn_of _ (by decide +kernel)) ggX1_rootOfOne_X1_raise
theorem dX1_rootOfOne_0 : decode cX1_rootOfOne 0 = .ok (.ldc2_w 13, 3) := by decide +kernel
theorem dX1_rootOfOne_3 : decode cX1_rootOfOne 3 = .ok (.iload_n 1, 1) := by decide +kernel
theorem dX1_rootOfOne_4 : decode cX1_rootOfOne 4 = .ok (.iconst 1, 1) := by decide +kernel
theorem dX1_rootOfOne_5 : decode cX1_rootOfOne 5 = .ok (.isub, 1) := by decide +kernel
theorem dX1_rootOfOne_6 : decode cX1_rootOfOne 6 = .ok (.iload_n 0, 1) := by decide +kernel
theorem dX1_rootOfOne_7 : decode cX1_rootOfOne 7 = .ok (.ishr, 1) := by decide +kernel
theorem dX1_rootOfOne_8 : decode cX1_rootOfOne 8 = .ok (.iload_n 1, 1) := by decide +kernel
theorem dX1_rootOfOne_9 : decode cX1_rootOfOne 9 = .ok (.invokestatic 7, 3) := by decide +kernel
theorem dX1_rootOfOne_12 : decode cX1_rootOfOne 12 = .ok (.lreturn, 1) := by decide +kernel
theorem dX2_init_0 : decode cX2_init 0 = .ok (.aload_n 0, 1) := by decide +kernel
theorem dX2_init_1 : decode cX2_init 1 = .ok (.invokespecial 3, 3) := by decide +kernel
theorem dX2_init_4 : decode cX2_init 4 = .ok (.aload_n 0, 1) := by decide +kernel
theorem dX2_init_5 : decode cX2_init 5 = .ok (.getstatic 9, 3) := by decide +kernel
theorem dX2_init_8 : decode cX2_init 8 = .ok (.arraylength, 1) := by decide +kernel
theorem dX2_init_9 : decode cX2_init 9 = .ok (.iload_n 1, 1) := by decide +kernel
theorem dX2_init_10 : decode cX2_init 10 = .ok (.multianewarray 13 2, 4) := by decide +kernel
theorem dX2_init_14 : decode cX2_init 14 = .ok (.putfield 15, 3) := by decide +kernel
theorem dX2_init_17 : decode cX2_init 17 = .ok (.return_, 1) := by decide +kernel
theorem dX2_remainder_0 : decode cX2_remainder 0 = .ok (.aload_n 0, 1) := by decide +kernel
theorem dX2_remainder_1 : decode cX2_remainder 1 = .ok (.getfield 15, 3) := by decide +kernel
theorem dX2_remainder_4 : decode cX2_remainder 4 = .ok (.iload_n 1, 1) := by decide +kernel
theorem dX2_remainder_5 : decode cX2_remainder 5 = .ok (.aaload, 1) := by decide +kernel
theorem dX2_remainder_6 : decode cX2_remainder 6 = .ok (.iload_n 2, 1) := by decide +kernel
theorem dX2_remainder_7 : decode cX2_remainder 7 = .ok (.iaload, 1) := by decide +kernel
theorem dX2_remainder_8 : decode cX2_remainder 8 = .ok (.ireturn, 1) := by decide +kernel
theorem dX2_setRemainder_0 : decode cX2_setRemainder 0 = .ok (.aload_n 0, 1) := by decide +kernel
theorem dX2_setRemainder_1 : decode cX2_setRemainder 1 = .ok (.getfield 15, 3) := by decide +kernel
theorem dX2_setRemainder_4 : decode cX2_setRemainder 4 = .ok (.iload_n 1, 1) := by decide +kernel
theorem dX2_setRemainder_5 : decode cX2_setRemainder 5 = .ok (.aaload, 1) := by decide +kernel
theorem dX2_setRemainder_6 : decode cX2_setRemainder 6 = .ok (.iload_n 2, 1) := by decide +kernel
theorem dX2_setRemainder_7 : decode cX2_setRemainder 7 = .ok (.lload_n 3, 1) := by decide +kernel
theorem dX2_setRemainder_8 : decode cX2_setRemainder 8 = .ok (.l2i, 1) := by decide +kernel
theorem dX2_setRemainder_9 : decode cX2_setRemainder 9 = .ok (.iastore, 1) := by decide +kernel
theorem dX2_setRemainder_10 : decode cX2_setRemainder 10 = .ok (.return_, 1) := by decide +kernel
set_option maxRecDepth 20000 in
theorem ggX2_cutInto_X2_lowest64Bits : GoodIn wsX2_cutInto wsX2_lowest64Bits := goodIn_r _ [5, 6, 7, 8, 9, 4, 10, 11, 12, 13, 14, 15, 16, 17, 18, 19, 20, 21, 22, 23, 24, 25, 26, 27] (by decide +kernel) (by decide +kernel)
set_option maxRecDepth 20000 in
theorem gX2_cutInto_X2_lowest64Bits : GoodIn wsX2_cutInto (wsV RX2 20 RX2 yX2_lowest64Bits wsX2_lowest64Bits) := goodIn_app (goodIn_of _ (by decide +kernel)) ggX2_cutInto_X2_lowest64Bits
theorem dX2_cutInto_0 : decode cX2_cutInto 0 = .ok (.iconst 0, 1) := by decide +kernel
theorem dX2_cutInto_1 : decode cX2_cutInto 1 = .ok (.istore_n 3, 1) := by decide +kernel
theorem dX2_cutInto_2 : decode cX2_cutInto 2 = .ok (.iload_n 3, 1) := by decide +kernel
theorem dX2_cutInto_3 : decode cX2_cutInto 3 = .ok (.iload_n 2, 1) := by decide +kernel
theorem dX2_cutInto_4 : decode cX2_cutInto 4 = .ok (.if_icmp .ge 18, 3) := by decide +kernel
theorem dX2_cutInto_7 : decode cX2_cutInto 7 = .ok (.aload_n 1, 1) := by decide +kernel
theorem dX2_cutInto_8 : decode cX2_cutInto 8 = .ok (.iload_n 3, 1) := by decide +kernel
theorem dX2_cutInto_9 : decode cX2_cutInto 9 = .ok (.aload_n 0, 1) := by decide +kernel
theorem dX2_cutInto_10 : decode cX2_cutInto 10 = .ok (.iload_n 3, 1) := by decide +kernel
theorem dX2_cutInto_11 : decode cX2_cutInto 11 = .ok (.invokevirtual 20, 3) := by decide +kernel
theorem dX2_cutInto_14 : decode cX2_cutInto 14 = .ok (.l2i, 1) := by decide +kernel
theorem dX2_cutInto_15 : decode cX2_cutInto 15 = .ok (.iastore, 1) := by decide +kernel
theorem dX2_cutInto_16 : decode cX2_cutInto 16 = .ok (.iinc 3 1, 3) := by decide +kernel
theorem dX2_cutInto_19 : decode cX2_cutInto 19 = .ok (.goto (-17), 3) := by decide +kernel
theorem dX2_cutInto_22 : decode cX2_cutInto 22 = .ok (.return_, 1) := by decide +kernel
set_option maxRecDepth 20000 in
theorem ggX2_lowest64Bits_X2_moduloFirstTwo : GoodIn wsX2_lowest64Bits wsX2_moduloFirstTwo := goodIn_r _ [6, 7, 8, 9, 10, 11, 12, 13, 14, 23] (by decide +kernel) (by decide +kernel)
set_option maxRecDepth 20000 in
theorem gX2_lowest64Bits_X2_moduloFirstTwo : GoodIn wsX2_lowest64Bits (wsV RX2 24 RX2 yX2_moduloFirstTwo wsX2_moduloFirstTwo) := goodIn_app (goodIn_of _ (by decide +kernel)) ggX2_lowest64Bits_X2_moduloFirstTwo
set_option maxRecDepth 20000 in
theorem ggX2_lowest64Bits_X2_timesOfFirstTwo : GoodIn wsX2_lowest64Bits wsX2_timesOfFirstTwo := goodIn_r _ [18, 7, 19, 20, 21, 22, 11, 12, 13, 14, 23] (by decide +kernel) (by decide +kernel)
set_option maxRecDepth 20000 in
theorem gX2_lowest64Bits_X2_timesOfFirstTwo : GoodIn wsX2_lowest64Bits (wsV RX2 29 RX2 yX2_timesOfFirstTwo wsX2_timesOfFirstTwo) := goodIn_app (goodIn_of _ (by decide +kernel)) ggX2_lowest64Bits_X2_timesOfFirstTwo
theorem dX2_lowest64Bits_0 : decode cX2_lowest64Bits 0 = .ok (.aload_n 0, 1) := by decide +kernel
theorem dX2_lowest64Bits_1 : decode cX2_lowest64Bits 1 = .ok (.iload_n 1, 1) := by decide +kernel
theorem dX2_lowest64Bits_2 : decode cX2_lowest64Bits 2 = .ok (.invokevirtual 24, 3) := by decide +kernel
theorem dX2_lowest64Bits_5 : decode cX2_lowest64Bits 5 = .ok (.lstore_n 2, 1) := by decide +kernel
theorem dX2_lowest64Bits_6 : decode cX2_lowest64Bits 6 = .ok (.lload_n 2, 1) := by decide +kernel
theorem dX2_lowest64Bits_7 : decode cX2_lowest64Bits 7 = .ok (.ldc2_w 27, 3) := by decide +kernel
theorem dX2_lowest64Bits_10 : decode cX2_lowest64Bits 10 = .ok (.aload_n 0, 1) := by decide +kernel
theorem dX2_lowest64Bits_11 : decode cX2_lowest64Bits 11 = .ok (.iload_n 1, 1) := by decide +kernel
theorem dX2_lowest64Bits_12 : decode cX2_lowest64Bits 12 = .ok (.lload_n 2, 1) := by decide +kernel
theorem dX2_lowest64Bits_13 : decode cX2_lowest64Bits 13 = .ok (.invokevirtual 29, 3) := by decide +kernel
theorem dX2_lowest64Bits_16 : decode cX2_lowest64Bits 16 = .ok (.lmul, 1) := by decide +kernel
theorem dX2_lowest64Bits_17 : decode cX2_lowest64Bits 17 = .ok (.ladd, 1) := by decide +kernel
theorem dX2_lowest64Bits_18 : decode cX2_lowest64Bits 18 = .ok (.lreturn, 1) := by decide +kernel
set_option maxRecDepth 20000 in
theorem ggX2_bitsAbove64_X2_moduloFirstTwo : GoodIn wsX2_bitsAbove64 wsX2_moduloFirstTwo := goodIn_r _ [7, 8, 9, 10, 11, 12, 13, 14, 15, 24] (by decide +kernel) (by decide +kernel)
set_option maxRecDepth 20000 in
theorem gX2_bitsAbove64_X2_moduloFirstTwo : GoodIn wsX2_bitsAbove64 (wsV RX2 24 RX2 yX2_moduloFirstTwo wsX2_moduloFirstTwo) := goodIn_app (goodIn_of _ (by decide +kernel)) ggX2_bitsAbove64_X2_moduloFirstTwo
set_option maxRecDepth 20000 in
theorem ggX2_bitsAbove64_X2_timesOfFirstTwo : GoodIn wsX2_bitsAbove64 wsX2_timesOfFirstTwo := goodIn_r _ [19, 8, 20, 21, 22, 23, 12, 13, 14, 15, 24] (by decide +kernel) (by decide +kernel)
set_option maxRecDepth 20000 in
theorem gX2_bitsAbove64_X2_timesOfFirstTwo : GoodIn wsX2_bitsAbove64 (wsV RX2 29 RX2 yX2_timesOfFirstTwo wsX2_timesOfFirstTwo) := goodIn_app (goodIn_of _ (by decide +kernel)) ggX2_bitsAbove64_X2_timesOfFirstTwo
theorem dX2_bitsAbove64_0 : decode cX2_bitsAbove64 0 = .ok (.aload_n 0, 1) := by decide +kernel
theorem dX2_bitsAbove64_1 : decode cX2_bitsAbove64 1 = .ok (.iload_n 1, 1) := by decide +kernel
theorem dX2_bitsAbove64_2 : decode cX2_bitsAbove64 2 = .ok (.invokevirtual 24, 3) := by decide +kernel
theorem dX2_bitsAbove64_5 : decode cX2_bitsAbove64 5 = .ok (.lstore_n 2, 1) := by decide +kernel
theorem dX2_bitsAbove64_6 : decode cX2_bitsAbove64 6 = .ok (.aload_n 0, 1) := by decide +kernel
theorem dX2_bitsAbove64_7 : decode cX2_bitsAbove64 7 = .ok (.iload_n 1, 1) := by decide +kernel
theorem dX2_bitsAbove64_8 : decode cX2_bitsAbove64 8 = .ok (.lload_n 2, 1) := by decide +kernel
theorem dX2_bitsAbove64_9 : decode cX2_bitsAbove64 9 = .ok (.invokevirtual 29, 3) := by decide +kernel
theorem dX2_bitsAbove64_12 : decode cX2_bitsAbove64 12 = .ok (.lstore 4, 2) := by decide +kernel
theorem dX2_bitsAbove64_14 : decode cX2_bitsAbove64 14 = .ok (.lload_n 2, 1) := by decide +kernel
theorem dX2_bitsAbove64_15 : decode cX2_bitsAbove64 15 = .ok (.ldc2_w 33, 3) := by decide +kernel
theorem dX2_bitsAbove64_18 : decode cX2_bitsAbove64 18 = .ok (.lload 4, 2) := by decide +kernel
theorem dX2_bitsAbove64_20 : decode cX2_bitsAbove64 20 = .ok (.lmul, 1) := by decide +kernel
theorem dX2_bitsAbove64_21 : decode cX2_bitsAbove64 21 = .ok (.ladd, 1) := by decide +kernel
theorem dX2_bitsAbove64_22 : decode cX2_bitsAbove64 22 = .ok (.lstore 6, 2) := by decide +kernel
theorem dX2_bitsAbove64_24 : decode cX2_bitsAbove64 24 = .ok (.ldc2_w 35, 3) := by decide +kernel
theorem dX2_bitsAbove64_27 : decode cX2_bitsAbove64 27 = .ok (.lload 4, 2) := by decide +kernel
theorem dX2_bitsAbove64_29 : decode cX2_bitsAbove64 29 = .ok (.lmul, 1) := by decide +kernel
theorem dX2_bitsAbove64_30 : decode cX2_bitsAbove64 30 = .ok (.lstore 8, 2) := by decide +kernel
theorem dX2_bitsAbove64_32 : decode cX2_bitsAbove64 32 = .ok (.lload 8, 2) := by decide +kernel
theorem dX2_bitsAbove64_34 : decode cX2_bitsAbove64 34 = .ok (.lload 6, 2) := by decide +kernel
theorem dX2_bitsAbove64_36 : decode cX2_bitsAbove64 36 = .ok (.bipush 32, 2) := by decide +kernel
theorem dX2_bitsAbove64_38 : decode cX2_bitsAbove64 38 = .ok (.lshr, 1) := by decide +kernel
theorem dX2_bitsAbove64_39 : decode cX2_bitsAbove64 39 = .ok (.ladd, 1) := by decide +kernel
theorem dX2_bitsAbove64_40 : decode cX2_bitsAbove64 40 = .ok (.bipush 32, 2) := by decide +kernel
theorem dX2_bitsAbove64_42 : decode cX2_bitsAbove64 42 = .ok (.lshr, 1) := by decide +kernel
theorem dX2_bitsAbove64_43 : decode cX2_bitsAbove64 43 = .ok (.l2i, 1) := by decide +kernel
theorem dX2_bitsAbove64_44 : decode cX2_bitsAbove64 44 = .ok (.ireturn, 1) := by decide +kernel
set_option maxRecDepth 20000 in
theorem ggX2_moduloFirstTwo_X1_remainder : GoodIn wsX2_moduloFirstTwo wsX1_remainder := goodIn_r _ [8] (by decide +kernel) (by decide +kernel)
set_option maxRecDepth 20000 in
theorem gX2_moduloFirstTwo_X1_remainder : GoodIn wsX2_moduloFirstTwo (va_wsS RX2 42 yX1_remainder wsX1_remainder) := goodIn_app (goodIn_of _ (by decide +kernel)) ggX2_moduloFirstTwo_X1_remainder
theorem dX2_moduloFirstTwo_0 : decode cX2_moduloFirstTwo 0 = .ok (.aload_n 0, 1) := by decide +kernel
theorem dX2_moduloFirstTwo_1 : decode cX2_moduloFirstTwo 1 = .ok (.getfield 15, 3) := by decide +kernel
theorem dX2_moduloFirstTwo_4 : decode cX2_moduloFirstTwo 4 = .ok (.iconst 0, 1) := by decide +kernel
theorem dX2_moduloFirstTwo_5 : decode cX2_moduloFirstTwo 5 = .ok (.aaload, 1) := by decide +kernel
theorem dX2_moduloFirstTwo_6 : decode cX2_moduloFirstTwo 6 = .ok (.iload_n 1, 1) := by decide +kernel
theorem dX2_moduloFirstTwo_7 : decode cX2_moduloFirstTwo 7 = .ok (.iaload, 1) := by decide +kernel
theorem dX2_moduloFirstTwo_8 : decode cX2_moduloFirstTwo 8 = .ok (.i2l, 1) := by decide +kernel
theorem dX2_moduloFirstTwo_9 : decode cX2_moduloFirstTwo 9 = .ok (.lstore_n 2, 1) := by decide +kernel
theorem dX2_moduloFirstTwo_10 : decode cX2_moduloFirstTwo 10 = .ok (.aload_n 0, 1) := by decide +kernel
theorem dX2_moduloFirstTwo_11 : decode cX2_moduloFirstTwo 11 = .ok (.getfield 15, 3) := by decide +kernel
theorem dX2_moduloFirstTwo_14 : decode cX2_moduloFirstTwo 14 = .ok (.iconst 1, 1) := by decide +kernel
theorem dX2_moduloFirstTwo_15 : decode cX2_moduloFirstTwo 15 = .ok (.aaload, 1) := by decide +kernel
theorem dX2_moduloFirstTwo_16 : decode cX2_moduloFirstTwo 16 = .ok (.iload_n 1, 1) := by decide +kernel
theorem dX2_moduloFirstTwo_17 : decode cX2_moduloFirstTwo 17 = .ok (.iaload, 1) := by decide +kernel
theorem dX2_moduloFirstTwo_18 : decode cX2_moduloFirstTwo 18 = .ok (.i2l, 1) := by decide +kernel
theorem dX2_moduloFirstTwo_19 : decode cX2_moduloFirstTwo 19 = .ok (.lload_n 2, 1) := by decide +kernel
theorem dX2_moduloFirstTwo_20 : decode cX2_moduloFirstTwo 20 = .ok (.lsub, 1) := by decide +kernel
theorem dX2_moduloFirstTwo_21 : decode cX2_moduloFirstTwo 21 = .ok (.lstore 4, 2) := by decide +kernel
theorem dX2_moduloFirstTwo_23 : decode cX2_moduloFirstTwo 23 = .ok (.lload_n 2, 1) := by decide +kernel
theorem dX2_moduloFirstTwo_24 : decode cX2_moduloFirstTwo 24 = .ok (.ldc2_w 37, 3) := by decide +kernel
theorem dX2_moduloFirstTwo_27 : decode cX2_moduloFirstTwo 27 = .ok (.lload 4, 2) := by decide +kernel
theorem dX2_moduloFirstTwo_29 : decode cX2_moduloFirstTwo 29 = .ok (.ldc2_w 39, 3) := by decide +kernel
theorem dX2_moduloFirstTwo_32 : decode cX2_moduloFirstTwo 32 = .ok (.lmul, 1) := by decide +kernel
theorem dX2_moduloFirstTwo_33 : decode cX2_moduloFirstTwo 33 = .ok (.ldc 41, 2) := by decide +kernel
theorem dX2_moduloFirstTwo_35 : decode cX2_moduloFirstTwo 35 = .ok (.invokestatic 42, 3) := by decide +kernel
theorem dX2_moduloFirstTwo_38 : decode cX2_moduloFirstTwo 38 = .ok (.lmul, 1) := by decide +kernel
theorem dX2_moduloFirstTwo_39 : decode cX2_moduloFirstTwo 39 = .ok (.ladd, 1) := by decide +kernel
theorem dX2_moduloFirstTwo_40 : decode cX2_moduloFirstTwo 40 = .ok (.lreturn, 1) := by decide +kernel
set_option maxRecDepth 20000 in
theorem ggX2_timesOfFirstTwo_X1_remainder : GoodIn wsX2_timesOfFirstTwo wsX1_remainder := goodIn_r _ [9] (by decide +kernel) (by decide +kernel)
set_option maxRecDepth 20000 in
theorem gX2_timesOfFirstTwo_X1_remainder : GoodIn wsX2_timesOfFirstTwo (va_wsS RX2 42 yX1_remainder wsX1_remainder) := goodIn_app (goodIn_of _ (by decide +kernel)) ggX2_timesOfFirstTwo_X1_remainder
theorem dX2_timesOfFirstTwo_0 : decode cX2_timesOfFirstTwo 0 = .ok (.aload_n 0, 1) := by decide +kernel
theorem dX2_timesOfFirstTwo_1 : decode cX2_timesOfFirstTwo 1 = .ok (.getfield 15, 3) := by decide +kernel
theorem dX2_timesOfFirstTwo_4 : decode cX2_timesOfFirstTwo 4 = .ok (.iconst 2, 1) := by decide +kernel
theorem dX2_timesOfFirstTwo_5 : decode cX2_timesOfFirstTwo 5 = .ok (.aaload, 1) := by decide +kernel
theorem dX2_timesOfFirstTwo_6 : decode cX2_timesOfFirstTwo 6 = .ok (.iload_n 1, 1) := by decide +kernel
theorem dX2_timesOfFirstTwo_7 : decode cX2_timesOfFirstTwo 7 = .ok (.iaload, 1) := by decide +kernel
theorem dX2_timesOfFirstTwo_8 : decode cX2_timesOfFirstTwo 8 = .ok (.i2l, 1) := by decide +kernel
theorem dX2_timesOfFirstTwo_9 : decode cX2_timesOfFirstTwo 9 = .ok (.lload_n 2, 1) := by decide +kernel
theorem dX2_timesOfFirstTwo_10 : decode cX2_timesOfFirstTwo 10 = .ok (.lsub, 1) := by decide +kernel
theorem dX2_timesOfFirstTwo_11 : decode cX2_timesOfFirstTwo 11 = .ok (.ldc2_w 48, 3) := by decide +kernel
theorem dX2_timesOfFirstTwo_14 : decode cX2_timesOfFirstTwo 14 = .ok (.lrem, 1) := by decide +kernel
theorem dX2_timesOfFirstTwo_15 : decode cX2_timesOfFirstTwo 15 = .ok (.lstore 4, 2) := by decide +kernel
theorem dX2_timesOfFirstTwo_17 : decode cX2_timesOfFirstTwo 17 = .ok (.lload 4, 2) := by decide +kernel
theorem dX2_timesOfFirstTwo_19 : decode cX2_timesOfFirstTwo 19 = .ok (.ldc2_w 50, 3) := by decide +kernel
theorem dX2_timesOfFirstTwo_22 : decode cX2_timesOfFirstTwo 22 = .ok (.lmul, 1) := by decide +kernel
theorem dX2_timesOfFirstTwo_23 : decode cX2_timesOfFirstTwo 23 = .ok (.ldc 52, 2) := by decide +kernel
theorem dX2_timesOfFirstTwo_25 : decode cX2_timesOfFirstTwo 25 = .ok (.invokestatic 42, 3) := by decide +kernel
theorem dX2_timesOfFirstTwo_28 : decode cX2_timesOfFirstTwo 28 = .ok (.lstore 6, 2) := by decide +kernel
theorem dX2_timesOfFirstTwo_30 : decode cX2_timesOfFirstTwo 30 = .ok (.lload 6, 2) := by decide +kernel
theorem dX2_timesOfFirstTwo_32 : decode cX2_timesOfFirstTwo 32 = .ok (.ldc2_w 53, 3) := by decide +kernel
theorem dX2_timesOfFirstTwo_35 : decode cX2_timesOfFirstTwo 35 = .ok (.lcmp, 1) := by decide +kernel
theorem dX2_timesOfFirstTwo_36 : decode cX2_timesOfFirstTwo 36 = .ok (.ifCond .le 12, 3) := by decide +kernel
theorem dX2_timesOfFirstTwo_39 : decode cX2_timesOfFirstTwo 39 = .ok (.lload 6, 2) := by decide +kernel
theorem dX2_timesOfFirstTwo_41 : decode cX2_timesOfFirstTwo 41 = .ok (.ldc2_w 48, 3) := by decide +kernel
theorem dX2_timesOfFirstTwo_44 : decode cX2_timesOfFirstTwo 44 = .ok (.lsub, 1) := by decide +kernel
theorem dX2_timesOfFirstTwo_45 : decode cX2_timesOfFirstTwo 45 = .ok (.goto 5, 3) := by decide +kernel
theorem dX2_timesOfFirstTwo_48 : decode cX2_timesOfFirstTwo 48 = .ok (.lload 6, 2) := by decide +kernel
theorem dX2_timesOfFirstTwo_50 : decode cX2_timesOfFirstTwo 50 = .ok (.lreturn, 1) := by decide +kernel
set_option maxRecDepth 20000 in
theorem ggX3_init_X2_init : GoodIn wsX3_init wsX2_init := goodIn_r _ [21, 22, 2, 3, 23, 5, 24, 41] (by decide +kernel) (by decide +kernel)
set_option maxRecDepth 20000 in
theorem gX3_init_X2_init : GoodIn wsX3_init (wsX2_init) := ggX3_init_X2_init
set_option maxRecDepth 20000 in
theorem ggX3_init_X0_init : GoodIn wsX3_init wsX0_init := goodIn_r _ [27, 28, 2, 3, 29, 30, 31, 32, 42, 43, 44] (by decide +kernel) (by decide +kernel)
set_option maxRecDepth 20000 in
theorem gX3_init_X0_init : GoodIn wsX3_init (wsX0_init) := ggX3_init_X0_init
theorem dX3_init_0 : decode cX3_init 0 = .ok (.aload_n 0, 1) := by decide +kernel
theorem dX3_init_1 : decode cX3_init 1 = .ok (.invokespecial 3, 3) := by decide +kernel
theorem dX3_init_4 : decode cX3_init 4 = .ok (.aload_n 0, 1) := by decide +kernel
theorem dX3_init_5 : decode cX3_init 5 = .ok (.iconst 1, 1) := by decide +kernel
theorem dX3_init_6 : decode cX3_init 6 = .ok (.putfield 9, 3) := by decide +kernel
theorem dX3_init_9 : decode cX3_init 9 = .ok (.aload_n 0, 1) := by decide +kernel
theorem dX3_init_10 : decode cX3_init 10 = .ok (.sipush 256, 3) := by decide +kernel
theorem dX3_init_13 : decode cX3_init 13 = .ok (.newarray .int, 2) := by decide +kernel
theorem dX3_init_15 : decode cX3_init 15 = .ok (.putfield 13, 3) := by decide +kernel
theorem dX3_init_18 : decode cX3_init 18 = .ok (.aload_n 0, 1) := by decide +kernel
theorem dX3_init_19 : decode cX3_init 19 = .ok (.sipush 256, 3) := by decide +kernel
theorem dX3_init_22 : decode cX3_init 22 = .ok (.newarray .int, 2) := by decide +kernel
theorem dX3_init_24 : decode cX3_init 24 = .ok (.putfield 17, 3) := by decide +kernel
theorem dX3_init_27 : decode cX3_init 27 = .ok (.aload_n 0, 1) := by decide +kernel
theorem dX3_init_28 : decode cX3_init 28 = .ok (.iconst 0, 1) := by decide +kernel
theorem dX3_init_29 : decode cX3_init 29 = .ok (.putfield 20, 3) := by decide +kernel
theorem dX3_init_32 : decode cX3_init 32 = .ok (.aload_n 0, 1) := by decide +kernel
theorem dX3_init_33 : decode cX3_init 33 = .ok (.new 23, 3) := by decide +kernel
theorem dX3_init_36 : decode cX3_init 36 = .ok (.dup, 1) := by decide +kernel
theorem dX3_init_37 : decode cX3_init 37 = .ok (.sipush 511, 3) := by decide +kernel
theorem dX3_init_40 : decode cX3_init 40 = .ok (.invokespecial 25, 3) := by decide +kernel
theorem dX3_init_43 : decode cX3_init 43 = .ok (.putfield 28, 3) := by decide +kernel
theorem dX3_init_46 : decode cX3_init 46 = .ok (.aload_n 0, 1) := by decide +kernel
theorem dX3_init_47 : decode cX3_init 47 = .ok (.new 32, 3) := by decide +kernel
theorem dX3_init_50 : decode cX3_init 50 = .ok (.dup, 1) := by decide +kernel
theorem dX3_init_51 : decode cX3_init 51 = .ok (.sipush 512, 3) := by decide +kernel
theorem dX3_init_54 : decode cX3_init 54 = .ok (.invokespecial 34, 3) := by decide +kernel
theorem dX3_init_57 : decode cX3_init 57 = .ok (.putfield 35, 3) := by decide +kernel
theorem dX3_init_60 : decode cX3_init 60 = .ok (.aload_n 0, 1) := by decide +kernel
theorem dX3_init_61 : decode cX3_init 61 = .ok (.new 23, 3) := by decide +kernel
theorem dX3_init_64 : decode cX3_init 64 = .ok (.dup, 1) := by decide +kernel
theorem dX3_init_65 : decode cX3_init 65 = .ok (.sipush 256, 3) := by decide +kernel
theorem dX3_init_68 : decode cX3_init 68 = .ok (.invokespecial 25, 3) := by decide +kernel
theorem dX3_init_71 : decode cX3_init 71 = .ok (.putfield 39, 3) := by decide +kernel
theorem dX3_init_74 : decode cX3_init 74 = .ok (.aload_n 0, 1) := by decide +kernel
theorem dX3_init_75 : decode cX3_init 75 = .ok (.sipush 256, 3) := by decide +kernel
theorem dX3_init_78 : decode cX3_init 78 = .ok (.newarray .int, 2) := by decide +kernel
theorem dX3_init_80 : decode cX3_init 80 = .ok (.putfield 42, 3) := by decide +kernel
theorem dX3_init_83 : decode cX3_init 83 = .ok (.return_, 1) := by decide +kernel
set_option maxRecDepth 20000 in
theorem ggX3_size_X3_places : GoodIn wsX3_size wsX3_places := goodIn_r _ [11, 3, 12, 13, 14, 15, 16, 17, 18, 19] (by decide +kernel) (by decide +kernel)
set_option maxRecDepth 20000 in
theorem gX3_size_X3_places : GoodIn wsX3_size (wsV RX3 52 RX3 yX3_places wsX3_places) := goodIn_app (goodIn_of _ (by decide +kernel)) ggX3_size_X3_places
theorem dX3_size_0 : decode cX3_size 0 = .ok (.iload_n 1, 1) := by decide +kernel
theorem dX3_size_1 : decode cX3_size 1 = .ok (.iconst 1, 1) := by decide +kernel
theorem dX3_size_2 : decode cX3_size 2 = .ok (.if_icmp .lt 9, 3) := by decide +kernel
theorem dX3_size_5 : decode cX3_size 5 = .ok (.iload_n 1, 1) := by decide +kernel
theorem dX3_size_6 : decode cX3_size 6 = .ok (.bipush 8, 2) := by decide +kernel
theorem dX3_size_8 : decode cX3_size 8 = .ok (.if_icmp .le 13, 3) := by decide +kernel
theorem dX3_size_11 : decode cX3_size 11 = .ok (.new 45, 3) := by decide +kernel
theorem dX3_size_14 : decode cX3_size 14 = .ok (.dup, 1) := by decide +kernel
theorem dX3_size_15 : decode cX3_size 15 = .ok (.ldc 47, 2) := by decide +kernel
theorem dX3_size_17 : decode cX3_size 17 = .ok (.invokespecial 49, 3) := by decide +kernel
theorem dX3_size_20 : decode cX3_size 20 = .ok (.athrow, 1) := by decide +kernel
theorem dX3_size_21 : decode cX3_size 21 = .ok (.aload_n 0, 1) := by decide +kernel
theorem dX3_size_22 : decode cX3_size 22 = .ok (.iload_n 1, 1) := by decide +kernel
theorem dX3_size_23 : decode cX3_size 23 = .ok (.putfield 9, 3) := by decide +kernel
theorem dX3_size_26 : decode cX3_size 26 = .ok (.aload_n 0, 1) := by decide +kernel
theorem dX3_size_27 : decode cX3_size 27 = .ok (.iconst 0, 1) := by decide +kernel
theorem dX3_size_28 : decode cX3_size 28 = .ok (.putfield 20, 3) := by decide +kernel
theorem dX3_size_31 : decode cX3_size 31 = .ok (.iconst 0, 1) := by decide +kernel
theorem dX3_size_32 : decode cX3_size 32 = .ok (.istore_n 2, 1) := by decide +kernel
theorem dX3_size_33 : decode cX3_size 33 = .ok (.iload_n 2, 1) := by decide +kernel
theorem dX3_size_34 : decode cX3_size 34 = .ok (.aload_n 0, 1) := by decide +kernel
theorem dX3_size_35 : decode cX3_size 35 = .ok (.invokevirtual 52, 3) := by decide +kernel
theorem dX3_size_38 : decode cX3_size 38 = .ok (.if_icmp .ge 23, 3) := by decide +kernel
theorem dX3_size_41 : decode cX3_size 41 = .ok (.aload_n 0, 1) := by decide +kernel
theorem dX3_size_42 : decode cX3_size 42 = .ok (.getfield 13, 3) := by decide +kernel
theorem dX3_size_45 : decode cX3_size 45 = .ok (.iload_n 2, 1) := by decide +kernel
theorem dX3_size_46 : decode cX3_size 46 = .ok (.iconst 0, 1) := by decide +kernel
theorem dX3_size_47 : decode cX3_size 47 = .ok (.iastore, 1) := by decide +kernel
theorem dX3_size_48 : decode cX3_size 48 = .ok (.aload_n 0, 1) := by decide +kernel
theorem dX3_size_49 : decode cX3_size 49 = .ok (.getfield 17, 3) := by decide +kernel
theorem dX3_size_52 : decode cX3_size 52 = .ok (.iload_n 2, 1) := by decide +kernel
theorem dX3_size_53 : decode cX3_size 53 = .ok (.iconst 0, 1) := by decide +kernel
theorem dX3_size_54 : decode cX3_size 54 = .ok (.iastore, 1) := by decide +kernel
theorem dX3_size_55 : decode cX3_size 55 = .ok (.iinc 2 1, 3) := by decide +kernel
theorem dX3_size_58 : decode cX3_size 58 = .ok (.goto (-25), 3) := by decide +kernel
theorem dX3_size_61 : decode cX3_size 61 = .ok (.return_, 1) := by decide +kernel
set_option maxRecDepth 20000 in
theorem ggX3_setA_X3_requirePlace : GoodIn wsX3_setA wsX3_requirePlace := goodIn_ca (goodIn_r _ [6, 7, 8, 9, 10, 11, 5, 12, 13, 14, 15, 16, 17, 18, 19, 20, 21] (by decide +kernel) (by decide +kernel)) (goodIn_sub (fun _ h => List.mem_cons_of_mem _ (List.mem_append_right _ h)) (by decide +kernel))
set_option maxRecDepth 20000 in
theorem gX3_setA_X3_requirePlace : GoodIn wsX3_setA (wsV RX3 56 RX3 yX3_requirePlace wsX3_requirePlace) := goodIn_app (goodIn_of _ (by decide +kernel)) ggX3_setA_X3_requirePlace
theorem dX3_setA_0 : decode cX3_setA 0 = .ok (.aload_n 0, 1) := by decide +kernel
theorem dX3_setA_1 : decode cX3_setA 1 = .ok (.iload_n 1, 1) := by decide +kernel
theorem dX3_setA_2 : decode cX3_setA 2 = .ok (.invokevirtual 56, 3) := by decide +kernel
theorem dX3_setA_5 : decode cX3_setA 5 = .ok (.aload_n 0, 1) := by decide +kernel
theorem dX3_setA_6 : decode cX3_setA 6 = .ok (.getfield 13, 3) := by decide +kernel
theorem dX3_setA_9 : decode cX3_setA 9 = .ok (.iload_n 1, 1) := by decide +kernel
theorem dX3_setA_10 : decode cX3_setA 10 = .ok (.iaload, 1) := by decide +kernel
theorem dX3_setA_11 : decode cX3_setA 11 = .ok (.istore_n 3, 1) := by decide +kernel
theorem dX3_setA_12 : decode cX3_setA 12 = .ok (.aload_n 0, 1) := by decide +kernel
theorem dX3_setA_13 : decode cX3_setA 13 = .ok (.getfield 13, 3) := by decide +kernel
theorem dX3_setA_16 : decode cX3_setA 16 = .ok (.iload_n 1, 1) := by decide +kernel
theorem dX3_setA_17 : decode cX3_setA 17 = .ok (.iload_n 2, 1) := by decide +kernel
theorem dX3_setA_18 : decode cX3_setA 18 = .ok (.iastore, 1) := by decide +kernel
theorem dX3_setA_19 : decode cX3_setA 19 = .ok (.iload_n 3, 1) := by decide +kernel
theorem dX3_setA_20 : decode cX3_setA 20 = .ok (.ireturn, 1) := by decide +kernel
set_option maxRecDepth 20000 in
theorem ggX3_setB_X3_requirePlace : GoodIn wsX3_setB wsX3_requirePlace := goodIn_ca (goodIn_r _ [6, 7, 8, 9, 10, 11, 5, 12, 13, 14, 15, 16, 17, 18, 19, 20, 21] (by decide +kernel) (by decide +kernel)) (goodIn_sub (fun _ h => List.mem_cons_of_mem _ (List.mem_append_right _ h)) (by decide +kernel))
set_option maxRecDepth 20000 in
theorem gX3_setB_X3_requirePlace : GoodIn wsX3_setB (wsV RX3 56 RX3 yX3_requirePlace wsX3_requirePlace) := goodIn_app (goodIn_of _ (by decide +kernel)) ggX3_setB_X3_requirePlace
theorem dX3_setB_0 : decode cX3_setB 0 = .ok (.aload_n 0, 1) := by decide +kernel
theorem dX3_setB_1 : decode cX3_setB 1 = .ok (.iload_n 1, 1) := by decide +kernel
theorem dX3_setB_2 : decode cX3_setB 2 = .ok (.invokevirtual 56, 3) := by decide +kernel
theorem dX3_setB_5 : decode cX3_setB 5 = .ok (.aload_n 0, 1) := by decide +kernel
theorem dX3_setB_6 : decode cX3_setB 6 = .ok (.getfield 17, 3) := by decide +kernel
theorem dX3_setB_9 : decode cX3_setB 9 = .ok (.iload_n 1, 1) := by decide +kernel
theorem dX3_setB_10 : decode cX3_setB 10 = .ok (.iaload, 1) := by decide +kernel
theorem dX3_setB_11 : decode cX3_setB 11 = .ok (.istore_n 3, 1) := by decide +kernel
theorem dX3_setB_12 : decode cX3_setB 12 = .ok (.aload_n 0, 1) := by decide +kernel
theorem dX3_setB_13 : decode cX3_setB 13 = .ok (.getfield 17, 3) := by decide +kernel
theorem dX3_setB_16 : decode cX3_setB 16 = .ok (.iload_n 1, 1) := by decide +kernel
theorem dX3_setB_17 : decode cX3_setB 17 = .ok (.iload_n 2, 1) := by decide +kernel
theorem dX3_setB_18 : decode cX3_setB 18 = .ok (.iastore, 1) := by decide +kernel
theorem dX3_setB_19 : decode cX3_setB 19 = .ok (.iload_n 3, 1) := by decide +kernel
theorem dX3_setB_20 : decode cX3_setB 20 = .ok (.ireturn, 1) := by decide +kernel
set_option maxRecDepth 20000 in
theorem ggX3_a_X3_requirePlace : GoodIn wsX3_a wsX3_requirePlace := goodIn_ca (goodIn_r _ [6, 7, 8, 9, 10, 11, 5, 12, 13, 14, 15, 16, 17, 18, 19, 20, 21] (by decide +kernel) (by decide +kernel)) (goodIn_sub (fun _ h => List.mem_cons_of_mem _ (List.mem_append_right _ h)) (by decide +kernel))
set_option maxRecDepth 20000 in
theorem gX3_a_X3_requirePlace : GoodIn wsX3_a (wsV RX3 56 RX3 yX3_requirePlace wsX3_requirePlace) := goodIn_app (goodIn_of _ (by decide +kernel)) ggX3_a_X3_requirePlace
theorem dX3_a_0 : decode cX3_a 0 = .ok (.aload_n 0, 1) := by decide +kernel
theorem dX3_a_1 : decode cX3_a 1 = .ok (.iload_n 1, 1) := by decide +kernel
theorem dX3_a_2 : decode cX3_a 2 = .ok (.invokevirtual 56, 3) := by decide +kernel
theorem dX3_a_5 : decode cX3_a 5 = .ok (.aload_n 0, 1) := by decide +kernel
theorem dX3_a_6 : decode cX3_a 6 = .ok (.getfield 13, 3) := by decide +kernel
theorem dX3_a_9 : decode cX3_a 9 = .ok (.iload_n 1, 1) := by decide +kernel
theorem dX3_a_10 : decode cX3_a 10 = .ok (.iaload, 1) := by decide +kernel
theorem dX3_a_11 : decode cX3_a 11 = .ok (.ireturn, 1) := by decide +kernel
set_option maxRecDepth 20000 in
theorem ggX3_b_X3_requirePlace : GoodIn wsX3_b wsX3_requirePlace := goodIn_ca (goodIn_r _ [6, 7, 8, 9, 10, 11, 5, 12, 13, 14, 15, 16, 17, 18, 19, 20, 21] (by decide +kernel) (by decide +kernel)) (goodIn_sub (fun _ h => List.mem_cons_of_mem _ (List.mem_append_right _ h)) (by decide +kernel))
set_option maxRecDepth 20000 in
theorem gX3_b_X3_requirePlace : GoodIn wsX3_b (wsV RX3 56 RX3 yX3_requirePlace wsX3_requirePlace) := goodIn_app (goodIn_of _ (by decide +kernel)) ggX3_b_X3_requirePlace
theorem dX3_b_0 : decode cX3_b 0 = .ok (.aload_n 0, 1) := by decide +kernel
theorem dX3_b_1 : decode cX3_b 1 = .ok (.iload_n 1, 1) := by decide +kernel
theorem dX3_b_2 : decode cX3_b 2 = .ok (.invokevirtual 56, 3) := by decide +kernel
theorem dX3_b_5 : decode cX3_b 5 = .ok (.aload_n 0, 1) := by decide +kernel
theorem dX3_b_6 : decode cX3_b 6 = .ok (.getfield 17, 3) := by decide +kernel
theorem dX3_b_9 : decode cX3_b 9 = .ok (.iload_n 1, 1) := by decide +kernel
theorem dX3_b_10 : decode cX3_b 10 = .ok (.iaload, 1) := by decide +kernel
theorem dX3_b_11 : decode cX3_b 11 = .ok (.ireturn, 1) := by decide +kernel
theorem dX3_swap_0 : decode cX3_swap 0 = .ok (.aload_n 0, 1) := by decide +kernel
theorem dX3_swap_1 : decode cX3_swap 1 = .ok (.getfield 13, 3) := by decide +kernel
theorem dX3_swap_4 : decode cX3_swap 4 = .ok (.astore_n 1, 1) := by decide +kernel
theorem dX3_swap_5 : decode cX3_swap 5 = .ok (.aload_n 0, 1) := by decide +kernel
theorem dX3_swap_6 : decode cX3_swap 6 = .ok (.aload_n 0, 1) := by decide +kernel
theorem dX3_swap_7 : decode cX3_swap 7 = .ok (.getfield 17, 3) := by decide +kernel
theorem dX3_swap_10 : decode cX3_swap 10 = .ok (.putfield 13, 3) := by decide +kernel
theorem dX3_swap_13 : decode cX3_swap 13 = .ok (.aload_n 0, 1) := by decide +kernel
theorem dX3_swap_14 : decode cX3_swap 14 = .ok (.aload_n 1, 1) := by decide +kernel
theorem dX3_swap_15 : decode cX3_swap 15 = .ok (.putfield 17, 3) := by decide +kernel
theorem dX3_swap_18 : decode cX3_swap 18 = .ok (.return_, 1) := by decide +kernel
set_option maxRecDepth 20000 in
theorem ggX3_fold_X0_foldRows : GoodIn wsX3_fold wsX0_foldRows := goodIn_r _ [13, 14, 15, 16, 17, 18, 12, 19, 20, 21, 22, 23, 24, 25, 26, 27, 28, 29, 30, 31, 32, 33, 34, 35, 36, 37, 38, 39, 40, 41, 42, 43, 44, 45, 46, 47, 48, 49, 50, 51, 52, 53, 54, 55, 56, 57, 58, 59, 60, 61, 62, 63, 64, 65, 66, 67, 68, 69, 70, 71, 72, 86, 87, 88, 89] (by decide +kernel) (by decide +kernel)
set_option maxRecDepth 20000 in
theorem gX3_fold_X0_foldRows : GoodIn wsX3_fold (wsV RX3 61 RX0 yX0_foldRows wsX0_foldRows) := goodIn_app (goodIn_of _ (by decide +kernel)) ggX3_fold_X0_foldRows
set_option maxRecDepth 20000 in
theorem ggX3_fold_X3_places : GoodIn wsX3_fold wsX3_places := goodIn_r _ [77, 6, 78, 79, 80, 81, 82, 83, 84, 85] (by decide +kernel) (by decide +kernel)
set_option maxRecDepth 20000 in
theorem gX3_fold_X3_places : GoodIn wsX3_fold (wsV RX3 52 RX3 yX3_places wsX3_places) := goodIn_app (goodIn_of _ (by decide +kernel)) ggX3_fold_X3_places
theorem dX3_fold_0 : decode cX3_fold 0 = .ok (.iload_n 1, 1) := by decide +kernel
theorem dX3_fold_1 : decode cX3_fold 1 = .ok (.ifCond .lt 8, 3) := by decide +kernel
theorem dX3_fold_4 : decode cX3_fold 4 = .ok (.iload_n 1, 1) := by decide +kernel
theorem dX3_fold_5 : decode cX3_fold 5 = .ok (.iconst 2, 1) := by decide +kernel
theorem dX3_fold_6 : decode cX3_fold 6 = .ok (.if_icmp .le 13, 3) := by decide +kernel
theorem dX3_fold_9 : decode cX3_fold 9 = .ok (.new 45, 3) := by decide +kernel
theorem dX3_fold_12 : decode cX3_fold 12 = .ok (.dup, 1) := by decide +kernel
theorem dX3_fold_13 : decode cX3_fold 13 = .ok (.ldc 59, 2) := by decide +kernel
theorem dX3_fold_15 : decode cX3_fold 15 = .ok (.invokespecial 49, 3) := by decide +kernel
theorem dX3_fold_18 : decode cX3_fold 18 = .ok (.athrow, 1) := by decide +kernel
theorem dX3_fold_19 : decode cX3_fold 19 = .ok (.aload_n 0, 1) := by decide +kernel
theorem dX3_fold_20 : decode cX3_fold 20 = .ok (.getfield 35, 3) := by decide +kernel
theorem dX3_fold_23 : decode cX3_fold 23 = .ok (.aload_n 0, 1) := by decide +kernel
theorem dX3_fold_24 : decode cX3_fold 24 = .ok (.getfield 13, 3) := by decide +kernel
theorem dX3_fold_27 : decode cX3_fold 27 = .ok (.aload_n 0, 1) := by decide +kernel
theorem dX3_fold_28 : decode cX3_fold 28 = .ok (.getfield 17, 3) := by decide +kernel
theorem dX3_fold_31 : decode cX3_fold 31 = .ok (.aload_n 0, 1) := by decide +kernel
theorem dX3_fold_32 : decode cX3_fold 32 = .ok (.getfield 9, 3) := by decide +kernel
theorem dX3_fold_35 : decode cX3_fold 35 = .ok (.iload_n 1, 1) := by decide +kernel
theorem dX3_fold_36 : decode cX3_fold 36 = .ok (.aload_n 0, 1) := by decide +kernel
theorem dX3_fold_37 : decode cX3_fold 37 = .ok (.getfield 28, 3) := by decide +kernel
theorem dX3_fold_40 : decode cX3_fold 40 = .ok (.invokevirtual 61, 3) := by decide +kernel
theorem dX3_fold_43 : decode cX3_fold 43 = .ok (.aload_n 0, 1) := by decide +kernel
theorem dX3_fold_44 : decode cX3_fold 44 = .ok (.iload_n 1, 1) := by decide +kernel
theorem dX3_fold_45 : decode cX3_fold 45 = .ok (.iconst 2, 1) := by decide +kernel
theorem dX3_fold_46 : decode cX3_fold 46 = .ok (.if_icmp .ne 14, 3) := by decide +kernel
theorem dX3_fold_49 : decode cX3_fold 49 = .ok (.iconst 2, 1) := by decide +kernel
theorem dX3_fold_50 : decode cX3_fold 50 = .ok (.aload_n 0, 1) := by decide +kernel
theorem dX3_fold_51 : decode cX3_fold 51 = .ok (.invokevirtual 52, 3) := by decide +kernel
theorem dX3_fold_54 : decode cX3_fold 54 = .ok (.imul, 1) := by decide +kernel
theorem dX3_fold_55 : decode cX3_fold 55 = .ok (.iconst 1, 1) := by decide +kernel
theorem dX3_fold_56 : decode cX3_fold 56 = .ok (.isub, 1) := by decide +kernel
theorem dX3_fold_57 : decode cX3_fold 57 = .ok (.goto 7, 3) := by decide +kernel
theorem dX3_fold_60 : decode cX3_fold 60 = .ok (.aload_n 0, 1) := by decide +kernel
theorem dX3_fold_61 : decode cX3_fold 61 = .ok (.invokevirtual 52, 3) := by decide +kernel
theorem dX3_fold_64 : decode cX3_fold 64 = .ok (.putfield 20, 3) := by decide +kernel
theorem dX3_fold_67 : decode cX3_fold 67 = .ok (.aload_n 0, 1) := by decide +kernel
theorem dX3_fold_68 : decode cX3_fold 68 = .ok (.getfield 20, 3) := by decide +kernel
theorem dX3_fold_71 : decode cX3_fold 71 = .ok (.ireturn, 1) := by decide +kernel
set_option maxRecDepth 20000 in
theorem ggX3_power_X3_places : GoodIn wsX3_power wsX3_places := goodIn_r _ [13, 14, 110, 111, 112, 113, 114, 115, 116, 117] (by decide +kernel) (by decide +kernel)
set_option maxRecDepth 20000 in
theorem gX3_power_X3_places : GoodIn wsX3_power (wsV RX3 52 RX3 yX3_places wsX3_places) := goodIn_app (goodIn_of _ (by decide +kernel)) ggX3_power_X3_places
set_option maxRecDepth 20000 in
theorem ggX3_power_X3_foldRowAWith : GoodIn wsX3_power wsX3_foldRowAWith := goodIn_r _ [18, 19, 3, 14, 20, 21, 22, 23, 24, 25, 26, 27, 28, 29, 30, 31, 32, 33, 34, 35, 36, 37, 38, 39, 40, 41, 42, 43, 44, 45, 46, 47, 48, 49, 50, 51, 52, 53, 54, 55, 56, 57, 58, 59, 60, 61, 62, 63, 64, 65, 66, 67, 68, 69, 70, 71, 72, 73, 74, 75, 76, 77, 78, 79, 80, 81, 82, 83, 84, 9, 10, 11, 12, 13, 85, 86, 87, 88, 89, 90, 91, 92, 93, 94, 95, 96, 97, 98, 99, 100, 101, 102, 103, 104, 105, 106, 107, 108, 109, 110, 111, 112, 113, 114, 115, 116, 117, 118, 119, 120, 121] (by decide +kernel) (by decide +kernel)
set_option maxRecDepth 20000 in
theorem gX3_power_X3_foldRowAWith : GoodIn wsX3_power (wsV RX3 73 RX3 yX3_foldRowAWith wsX3_foldRowAWith) := goodIn_app (goodIn_of _ (by decide +kernel)) ggX3_power_X3_foldRowAWith
theorem dX3_power_0 : decode cX3_power 0 = .ok (.iload_n 1, 1) := by decide +kernel
theorem dX3_power_1 : decode cX3_power 1 = .ok (.iconst 1, 1) := by decide +kernel
theorem dX3_power_2 : decode cX3_power 2 = .ok (.if_icmp .lt 10, 3) := by decide +kernel
theorem dX3_power_5 : decode cX3_power 5 = .ok (.iload_n 1, 1) := by decide +kernel
theorem dX3_power_6 : decode cX3_power 6 = .ok (.sipush 1000, 3) := by decide +kernel
theorem dX3_power_9 : decode cX3_power 9 = .ok (.if_icmp .le 13, 3) := by decide +kernel
theorem dX3_power_12 : decode cX3_power 12 = .ok (.new 45, 3) := by decide +kernel
theorem dX3_power_15 : decode cX3_power 15 = .ok (.dup, 1) := by decide +kernel
theorem dX3_power_16 : decode cX3_power 16 = .ok (.ldc 65, 2) := by decide +kernel
theorem dX3_power_18 : decode cX3_power 18 = .ok (.invokespecial 49, 3) := by decide +kernel
theorem dX3_power_21 : decode cX3_power 21 = .ok (.athrow, 1) := by decide +kernel
theorem dX3_power_22 : decode cX3_power 22 = .ok (.aload_n 0, 1) := by decide +kernel
theorem dX3_power_23 : decode cX3_power 23 = .ok (.getfield 13, 3) := by decide +kernel
theorem dX3_power_26 : decode cX3_power 26 = .ok (.iconst 0, 1) := by decide +kernel
theorem dX3_power_27 : decode cX3_power 27 = .ok (.aload_n 0, 1) := by decide +kernel
theorem dX3_power_28 : decode cX3_power 28 = .ok (.getfield 42, 3) := by decide +kernel
theorem dX3_power_31 : decode cX3_power 31 = .ok (.iconst 0, 1) := by decide +kernel
theorem dX3_power_32 : decode cX3_power 32 = .ok (.aload_n 0, 1) := by decide +kernel
theorem dX3_power_33 : decode cX3_power 33 = .ok (.invokevirtual 52, 3) := by decide +kernel
theorem dX3_power_36 : decode cX3_power 36 = .ok (.invokestatic 67, 3) := by decide +kernel
theorem dX3_power_39 : decode cX3_power 39 = .ok (.sipush 256, 3) := by decide +kernel
theorem dX3_power_42 : decode cX3_power 42 = .ok (.istore_n 2, 1) := by decide +kernel
theorem dX3_power_43 : decode cX3_power 43 = .ok (.iload_n 2, 1) := by decide +kernel
theorem dX3_power_44 : decode cX3_power 44 = .ok (.ifCond .le 53, 3) := by decide +kernel
theorem dX3_power_47 : decode cX3_power 47 = .ok (.iconst 2, 1) := by decide +kernel
theorem dX3_power_48 : decode cX3_power 48 = .ok (.iload_n 2, 1) := by decide +kernel
theorem dX3_power_49 : decode cX3_power 49 = .ok (.imul, 1) := by decide +kernel
theorem dX3_power_50 : decode cX3_power 50 = .ok (.iload_n 1, 1) := by decide +kernel
theorem dX3_power_51 : decode cX3_power 51 = .ok (.if_icmp .gt 7, 3) := by decide +kernel
theorem dX3_power_54 : decode cX3_power 54 = .ok (.iconst 1, 1) := by decide +kernel
theorem dX3_power_55 : decode cX3_power 55 = .ok (.goto 4, 3) := by decide +kernel
theorem dX3_power_58 : decode cX3_power 58 = .ok (.iconst 0, 1) := by decide +kernel
theorem dX3_power_59 : decode cX3_power 59 = .ok (.istore_n 3, 1) := by decide +kernel
theorem dX3_power_60 : decode cX3_power 60 = .ok (.iload_n 3, 1) := by decide +kernel
theorem dX3_power_61 : decode cX3_power 61 = .ok (.ifCond .eq 11, 3) := by decide +kernel
theorem dX3_power_64 : decode cX3_power 64 = .ok (.aload_n 0, 1) := by decide +kernel
theorem dX3_power_65 : decode cX3_power 65 = .ok (.aload_n 0, 1) := by decide +kernel
theorem dX3_power_66 : decode cX3_power 66 = .ok (.getfield 13, 3) := by decide +kernel
theorem dX3_power_69 : decode cX3_power 69 = .ok (.invokevirtual 73, 3) := by decide +kernel
theorem dX3_power_72 : decode cX3_power 72 = .ok (.iload_n 3, 1) := by decide +kernel
theorem dX3_power_73 : decode cX3_power 73 = .ok (.ifCond .eq 17, 3) := by decide +kernel
theorem dX3_power_76 : decode cX3_power 76 = .ok (.iload_n 1, 1) := by decide +kernel
theorem dX3_power_77 : decode cX3_power 77 = .ok (.iload_n 2, 1) := by decide +kernel
theorem dX3_power_78 : decode cX3_power 78 = .ok (.iand, 1) := by decide +kernel
theorem dX3_power_79 : decode cX3_power 79 = .ok (.ifCond .eq 11, 3) := by decide +kernel
theorem dX3_power_82 : decode cX3_power 82 = .ok (.aload_n 0, 1) := by decide +kernel
theorem dX3_power_83 : decode cX3_power 83 = .ok (.aload_n 0, 1) := by decide +kernel
theorem dX3_power_84 : decode cX3_power 84 = .ok (.getfield 42, 3) := by decide +kernel
theorem dX3_power_87 : decode cX3_power 87 = .ok (.invokevirtual 73, 3) := by decide +kernel
theorem dX3_power_90 : decode cX3_power 90 = .ok (.iload_n 2, 1) := by decide +kernel
theorem dX3_power_91 : decode cX3_power 91 = .ok (.iconst 2, 1) := by decide +kernel
theorem dX3_power_92 : decode cX3_power 92 = .ok (.idiv, 1) := by decide +kernel
theorem dX3_power_93 : decode cX3_power 93 = .ok (.istore_n 2, 1) := by decide +kernel
theorem dX3_power_94 : decode cX3_power 94 = .ok (.goto (-51), 3) := by decide +kernel
theorem dX3_power_97 : decode cX3_power 97 = .ok (.aload_n 0, 1) := by decide +kernel
theorem dX3_power_98 : decode cX3_power 98 = .ok (.getfield 13, 3) := by decide +kernel
theorem dX3_power_101 : decode cX3_power 101 = .ok (.iconst 0, 1) := by decide +kernel
theorem dX3_power_102 : decode cX3_power 102 = .ok (.iaload, 1) := by decide +kernel
theorem dX3_power_103 : decode cX3_power 103 = .ok (.ireturn, 1) := by decide +kernel
set_option maxRecDepth 20000 in
theorem ggX3_low_X3_requireResult : GoodIn wsX3_low wsX3_requireResult := goodIn_ca (goodIn_r _ [6, 7, 8, 9, 36, 37, 38, 39, 40, 41, 42, 43] (by decide +kernel) (by decide +kernel)) (goodIn_sub (fun _ h => List.mem_cons_of_mem _ (List.mem_append_right _ h)) (by decide +kernel))
set_option maxRecDepth 20000 in
theorem gX3_low_X3_requireResult : GoodIn wsX3_low (wsV RX3 77 RX3 yX3_requireResult wsX3_requireResult) := goodIn_app (goodIn_of _ (by decide +kernel)) ggX3_low_X3_requireResult
set_option maxRecDepth 20000 in
theorem ggX3_low_X2_lowest64Bits : GoodIn wsX3_low wsX2_lowest64Bits := goodIn_r _ [14, 15, 16, 17, 18, 13, 19, 20, 21, 22, 23, 24, 25, 26, 27, 28, 29, 30, 31, 32, 33, 34, 35, 44] (by decide +kernel) (by decide +kernel)
set_option maxRecDepth 20000 in
theorem gX3_low_X2_lowest64Bits : GoodIn wsX3_low (wsV RX3 80 RX2 yX2_lowest64Bits wsX2_lowest64Bits) := goodIn_app (goodIn_of _ (by decide +kernel)) ggX3_low_X2_lowest64Bits
theorem dX3_low_0 : decode cX3_low 0 = .ok (.aload_n 0, 1) := by decide +kernel
theorem dX3_low_1 : decode cX3_low 1 = .ok (.iload_n 1, 1) := by decide +kernel
theorem dX3_low_2 : decode cX3_low 2 = .ok (.invokevirtual 77, 3) := by decide +kernel
theorem dX3_low_5 : decode cX3_low 5 = .ok (.aload_n 0, 1) := by decide +kernel
theorem dX3_low_6 : decode cX3_low 6 = .ok (.getfield 28, 3) := by decide +kernel
theorem dX3_low_9 : decode cX3_low 9 = .ok (.iload_n 1, 1) := by decide +kernel
theorem dX3_low_10 : decode cX3_low 10 = .ok (.invokevirtual 80, 3) := by decide +kernel
theorem dX3_low_13 : decode cX3_low 13 = .ok (.lreturn, 1) := by decide +kernel
set_option maxRecDepth 20000 in
theorem ggX3_high_X3_requireResult : GoodIn wsX3_high wsX3_requireResult := goodIn_ca (goodIn_r _ [6, 7, 8, 9, 37, 38, 39, 40, 41, 42, 43, 44] (by decide +kernel) (by decide +kernel)) (goodIn_sub (fun _ h => List.mem_cons_of_mem _ (List.mem_append_right _ h)) (by decide +kernel))
set_option maxRecDepth 20000 in
theorem gX3_high_X3_requireResult : GoodIn wsX3_high (wsV RX3 77 RX3 yX3_requireResult wsX3_requireResult) := goodIn_app (goodIn_of _ (by decide +kernel)) ggX3_high_X3_requireResult
set_option maxRecDepth 20000 in
theorem ggX3_high_X2_bitsAbove64 : GoodIn wsX3_high wsX2_bitsAbove64 := goodIn_r _ [14, 15, 16, 17, 18, 19, 13, 20, 21, 22, 23, 24, 25, 26, 27, 28, 29, 30, 31, 32, 33, 34, 35, 36, 45] (by decide +kernel) (by decide +kernel)
set_option maxRecDepth 20000 in
theorem gX3_high_X2_bitsAbove64 : GoodIn wsX3_high (wsV RX3 84 RX2 yX2_bitsAbove64 wsX2_bitsAbove64) := goodIn_app (goodIn_of _ (by decide +kernel)) ggX3_high_X2_bitsAbove64
theorem dX3_high_0 : decode cX3_high 0 = .ok (.aload_n 0, 1) := by decide +kernel
theorem dX3_high_1 : decode cX3_high 1 = .ok (.iload_n 1, 1) := by decide +kernel
theorem dX3_high_2 : decode cX3_high 2 = .ok (.invokevirtual 77, 3) := by decide +kernel
theorem dX3_high_5 : decode cX3_high 5 = .ok (.aload_n 0, 1) := by decide +kernel
theorem dX3_high_6 : decode cX3_high 6 = .ok (.getfield 28, 3) := by decide +kernel
theorem dX3_high_9 : decode cX3_high 9 = .ok (.iload_n 1, 1) := by decide +kernel
theorem dX3_high_10 : decode cX3_high 10 = .ok (.invokevirtual 84, 3) := by decide +kernel
theorem dX3_high_13 : decode cX3_high 13 = .ok (.ireturn, 1) := by decide +kernel
set_option maxRecDepth 20000 in
theorem ggX3_rest_X3_requirePrime : GoodIn wsX3_rest wsX3_requirePrime := goodIn_ca (goodIn_r _ [6, 7, 8, 9] (by decide +kernel) (by decide +kernel)) (goodIn_sub (fun _ h => List.mem_cons_of_mem _ (List.mem_append_left _ (List.mem_append_right _ h))) (by decide +kernel))
set_option maxRecDepth 20000 in
theorem gX3_rest_X3_requirePrime : GoodIn wsX3_rest (wsV RX3 88 RX3 yX3_requirePrime wsX3_requirePrime) := goodIn_app (goodIn_of _ (by decide +kernel)) ggX3_rest_X3_requirePrime
set_option maxRecDepth 20000 in
theorem ggX3_rest_X3_requireResult : GoodIn wsX3_rest wsX3_requireResult := goodIn_ca (goodIn_r _ [13, 14, 15, 16, 23, 24, 25, 26, 27, 28, 29, 30] (by decide +kernel) (by decide +kernel)) (goodIn_sub (fun _ h => List.mem_cons_of_mem _ (List.mem_append_right _ h)) (by decide +kernel))
set_option maxRecDepth 20000 in
theorem gX3_rest_X3_requireResult : GoodIn wsX3_rest (wsV RX3 77 RX3 yX3_requireResult wsX3_requireResult) := goodIn_app (goodIn_of _ (by decide +kernel)) ggX3_rest_X3_requireResult
set_option maxRecDepth 20000 in
theorem ggX3_rest_X2_remainder : GoodIn wsX3_rest wsX2_remainder := goodIn_r _ [21, 22, 31] (by decide +kernel) (by decide +kernel)
set_option maxRecDepth 20000 in
theorem gX3_rest_X2_remainder : GoodIn wsX3_rest (wsV RX3 91 RX2 yX2_remainder wsX2_remainder) := goodIn_app (goodIn_of _ (by decide +kernel)) ggX3_rest_X2_remainder
theorem dX3_rest_0 : decode cX3_rest 0 = .ok (.aload_n 0, 1) := by decide +kernel
theorem dX3_rest_1 : decode cX3_rest 1 = .ok (.iload_n 1, 1) := by decide +kernel
theorem dX3_rest_2 : decode cX3_rest 2 = .ok (.invokevirtual 88, 3) := by decide +kernel
theorem dX3_rest_5 : decode cX3_rest 5 = .ok (.aload_n 0, 1) := by decide +kernel
theorem dX3_rest_6 : decode cX3_rest 6 = .ok (.iload_n 2, 1) := by decide +kernel
theorem dX3_rest_7 : decode cX3_rest 7 = .ok (.invokevirtual 77, 3) := by decide +kernel
theorem dX3_rest_10 : decode cX3_rest 10 = .ok (.aload_n 0, 1) := by decide +kernel
theorem dX3_rest_11 : decode cX3_rest 11 = .ok (.getfield 28, 3) := by decide +kernel
theorem dX3_rest_14 : decode cX3_rest 14 = .ok (.iload_n 1, 1) := by decide +kernel
theorem dX3_rest_15 : decode cX3_rest 15 = .ok (.iload_n 2, 1) := by decide +kernel
theorem dX3_rest_16 : decode cX3_rest 16 = .ok (.invokevirtual 91, 3) := by decide +kernel
theorem dX3_rest_19 : decode cX3_rest 19 = .ok (.ireturn, 1) := by decide +kernel
set_option maxRecDepth 20000 in
theorem ggX3_value_X3_requirePrime : GoodIn wsX3_value wsX3_requirePrime := goodIn_ca (goodIn_r _ [6, 7, 8, 1] (by decide +kernel) (by decide +kernel)) (goodIn_sub (fun _ h => List.mem_cons_of_mem _ (List.mem_append_left _ (List.mem_append_right _ h))) (by decide +kernel))
set_option maxRecDepth 20000 in
theorem gX3_value_X3_requirePrime : GoodIn wsX3_value (wsV RX3 88 RX3 yX3_requirePrime wsX3_requirePrime) := goodIn_app (goodIn_of _ (by decide +kernel)) ggX3_value_X3_requirePrime
set_option maxRecDepth 20000 in
theorem ggX3_value_X3_requirePlace : GoodIn wsX3_value wsX3_requirePlace := goodIn_ca (goodIn_r _ [12, 13, 14, 15, 16, 17, 5, 18, 19, 41, 42, 43, 44, 45, 46, 47, 48] (by decide +kernel) (by decide +kernel)) (goodIn_sub (fun _ h => List.mem_cons_of_mem _ (List.mem_append_right _ h)) (by decide +kernel))
set_option maxRecDepth 20000 in
theorem gX3_value_X3_requirePlace : GoodIn wsX3_value (wsV RX3 56 RX3 yX3_requirePlace wsX3_requirePlace) := goodIn_app (goodIn_of _ (by decide +kernel)) ggX3_value_X3_requirePlace
set_option maxRecDepth 20000 in
theorem ggX3_value_X3_rootToThe : GoodIn wsX3_value wsX3_rootToThe := goodIn_r _ [23, 1, 19, 24, 25, 26, 27, 28, 29, 30, 31, 15, 16, 17, 5, 18, 32, 41, 42, 43, 44, 45, 46, 47, 48] (by decide +kernel) (by decide +kernel)
set_option maxRecDepth 20000 in
theorem gX3_value_X3_rootToThe : GoodIn wsX3_value (wsV RX3 95 RX3 yX3_rootToThe wsX3_rootToThe) := goodIn_app (goodIn_of _ (by decide +kernel)) ggX3_value_X3_rootToThe
set_option maxRecDepth 20000 in
theorem ggX3_value_X3_rowAAt : GoodIn wsX3_value wsX3_rowAAt := goodIn_r _ [36, 37, 15, 16, 17, 5, 18, 19, 38, 39, 26, 40, 41, 42, 43, 44, 45, 46, 47, 48] (by decide +kernel) (by decide +kernel)
set_option maxRecDepth 20000 in
theorem gX3_value_X3_rowAAt : GoodIn wsX3_value (wsV RX3 102 RX3 yX3_rowAAt wsX3_rowAAt) := goodIn_app (goodIn_of _ (by decide +kernel)) ggX3_value_X3_rowAAt
theorem dX3_value_0 : decode cX3_value 0 = .ok (.aload_n 0, 1) := by decide +kernel
theorem dX3_value_1 : decode cX3_value 1 = .ok (.iload_n 1, 1) := by decide +kernel
theorem dX3_value_2 : decode cX3_value 2 = .ok (.invokevirtual 88, 3) := by decide +kernel
theorem dX3_value_5 : decode cX3_value 5 = .ok (.aload_n 0, 1) := by decide +kernel
theorem dX3_value_6 : decode cX3_value 6 = .ok (.iload_n 2, 1) := by decide +kernel
theorem dX3_value_7 : decode cX3_value 7 = .ok (.invokevirtual 56, 3) := by decide +kernel
theorem dX3_value_10 : decode cX3_value 10 = .ok (.aload_n 0, 1) := by decide +kernel
theorem dX3_value_11 : decode cX3_value 11 = .ok (.aload_n 0, 1) := by decide +kernel
theorem dX3_value_12 : decode cX3_value 12 = .ok (.iload_n 1, 1) := by decide +kernel
theorem dX3_value_13 : decode cX3_value 13 = .ok (.iload_n 2, 1) := by decide +kernel
theorem dX3_value_14 : decode cX3_value 14 = .ok (.invokevirtual 95, 3) := by decide +kernel
theorem dX3_value_17 : decode cX3_value 17 = .ok (.getstatic 99, 3) := by decide +kernel
theorem dX3_value_20 : decode cX3_value 20 = .ok (.iload_n 1, 1) := by decide +kernel
theorem dX3_value_21 : decode cX3_value 21 = .ok (.iaload, 1) := by decide +kernel
theorem dX3_value_22 : decode cX3_value 22 = .ok (.invokevirtual 102, 3) := by decide +kernel
theorem dX3_value_25 : decode cX3_value 25 = .ok (.l2i, 1) := by decide +kernel
theorem dX3_value_26 : decode cX3_value 26 = .ok (.ireturn, 1) := by decide +kernel
set_option maxRecDepth 20000 in
theorem ggX3_back_X3_requirePrime : GoodIn wsX3_back wsX3_requirePrime := goodIn_ca (goodIn_r _ [6, 7, 8, 1] (by decide +kernel) (by decide +kernel)) (goodIn_sub (fun _ h => List.mem_cons_of_mem _ (List.mem_append_left _ (List.mem_append_right _ h))) (by decide +kernel))
set_option maxRecDepth 20000 in
theorem gX3_back_X3_requirePrime : GoodIn wsX3_back (wsV RX3 88 RX3 yX3_requirePrime wsX3_requirePrime) := goodIn_app (goodIn_of _ (by decide +kernel)) ggX3_back_X3_requirePrime
set_option maxRecDepth 20000 in
theorem ggX3_back_X3_requirePlace : GoodIn wsX3_back wsX3_requirePlace := goodIn_ca (goodIn_r _ [12, 13, 14, 15, 16, 17, 5, 18, 19, 44, 45, 46, 47, 48, 49, 50, 51] (by decide +kernel) (by decide +kernel)) (goodIn_sub (fun _ h => List.mem_cons_of_mem _ (List.mem_append_right _ h)) (by decide +kernel))
set_option maxRecDepth 20000 in
theorem gX3_back_X3_requirePlace : GoodIn wsX3_back (wsV RX3 56 RX3 yX3_requirePlace wsX3_requirePlace) := goodIn_app (goodIn_of _ (by decide +kernel)) ggX3_back_X3_requirePlace
set_option maxRecDepth 20000 in
theorem ggX3_back_X3_rootToThe : GoodIn wsX3_back wsX3_rootToThe := goodIn_r _ [23, 1, 19, 24, 25, 26, 27, 28, 29, 30, 31, 15, 16, 17, 5, 18, 32, 44, 45, 46, 47, 48, 49, 50, 51] (by decide +kernel) (by decide +kernel)
set_option maxRecDepth 20000 in
theorem gX3_back_X3_rootToThe : GoodIn wsX3_back (wsV RX3 95 RX3 yX3_rootToThe wsX3_rootToThe) := goodIn_app (goodIn_of _ (by decide +kernel)) ggX3_back_X3_rootToThe
set_option maxRecDepth 20000 in
theorem ggX3_back_X3_rowAAt : GoodIn wsX3_back wsX3_rowAAt := goodIn_r _ [36, 37, 15, 16, 17, 5, 18, 19, 38, 39, 26, 40, 44, 45, 46, 47, 48, 49, 50, 51] (by decide +kernel) (by decide +kernel)
set_option maxRecDepth 20000 in
theorem gX3_back_X3_rowAAt : GoodIn wsX3_back (wsV RX3 102 RX3 yX3_rowAAt wsX3_rowAAt) := goodIn_app (goodIn_of _ (by decide +kernel)) ggX3_back_X3_rowAAt
set_option maxRecDepth 20000 in
theorem ggX3_back_X3_places : GoodIn wsX3_back wsX3_places := goodIn_r _ [18, 19, 44, 45, 46, 47, 48, 49, 50, 51] (by decide +kernel) (by decide +kernel)
set_option maxRecDepth 20000 in
theorem gX3_back_X3_places : GoodIn wsX3_back (wsV RX3 52 RX3 yX3_places wsX3_places) := goodIn_app (goodIn_of _ (by decide +kernel)) ggX3_back_X3_places
set_option maxRecDepth 20000 in
theorem ggX3_back_X1_inverse : GoodIn wsX3_back wsX1_inverse := goodIn_r _ [43, 29, 30, 26, 31] (by decide +kernel) (by decide +kernel)
set_option maxRecDepth 20000 in
theorem gX3_back_X1_inverse : GoodIn wsX3_back (va_wsS RX3 106 yX1_inverse wsX1_inverse) := goodIn_app (goodIn_of _ (by decide +kernel)) ggX3_back_X1_inverse
theorem dX3_back_0 : decode cX3_back 0 = .ok (.aload_n 0, 1) := by decide +kernel
theorem dX3_back_1 : decode cX3_back 1 = .ok (.iload_n 1, 1) := by decide +kernel
theorem dX3_back_2 : decode cX3_back 2 = .ok (.invokevirtual 88, 3) := by decide +kernel
theorem dX3_back_5 : decode cX3_back 5 = .ok (.aload_n 0, 1) := by decide +kernel
theorem dX3_back_6 : decode cX3_back 6 = .ok (.iload_n 2, 1) := by decide +kernel
theorem dX3_back_7 : decode cX3_back 7 = .ok (.invokevirtual 56, 3) := by decide +kernel
theorem dX3_back_10 : decode cX3_back 10 = .ok (.getstatic 99, 3) := by decide +kernel
theorem dX3_back_13 : decode cX3_back 13 = .ok (.iload_n 1, 1) := by decide +kernel
theorem dX3_back_14 : decode cX3_back 14 = .ok (.iaload, 1) := by decide +kernel
theorem dX3_back_15 : decode cX3_back 15 = .ok (.istore_n 3, 1) := by decide +kernel
theorem dX3_back_16 : decode cX3_back 16 = .ok (.aload_n 0, 1) := by decide +kernel
theorem dX3_back_17 : decode cX3_back 17 = .ok (.aload_n 0, 1) := by decide +kernel
theorem dX3_back_18 : decode cX3_back 18 = .ok (.iload_n 1, 1) := by decide +kernel
theorem dX3_back_19 : decode cX3_back 19 = .ok (.iload_n 2, 1) := by decide +kernel
theorem dX3_back_20 : decode cX3_back 20 = .ok (.ineg, 1) := by decide +kernel
theorem dX3_back_21 : decode cX3_back 21 = .ok (.invokevirtual 95, 3) := by decide +kernel
theorem dX3_back_24 : decode cX3_back 24 = .ok (.iload_n 3, 1) := by decide +kernel
theorem dX3_back_25 : decode cX3_back 25 = .ok (.invokevirtual 102, 3) := by decide +kernel
theorem dX3_back_28 : decode cX3_back 28 = .ok (.aload_n 0, 1) := by decide +kernel
theorem dX3_back_29 : decode cX3_back 29 = .ok (.invokevirtual 52, 3) := by decide +kernel
theorem dX3_back_32 : decode cX3_back 32 = .ok (.i2l, 1) := by decide +kernel
theorem dX3_back_33 : decode cX3_back 33 = .ok (.iload_n 3, 1) := by decide +kernel
theorem dX3_back_34 : decode cX3_back 34 = .ok (.invokestatic 106, 3) := by decide +kernel
theorem dX3_back_37 : decode cX3_back 37 = .ok (.lmul, 1) := by decide +kernel
theorem dX3_back_38 : decode cX3_back 38 = .ok (.iload_n 3, 1) := by decide +kernel
theorem dX3_back_39 : decode cX3_back 39 = .ok (.i2l, 1) := by decide +kernel
theorem dX3_back_40 : decode cX3_back 40 = .ok (.lrem, 1) := by decide +kernel
theorem dX3_back_41 : decode cX3_back 41 = .ok (.l2i, 1) := by decide +kernel
theorem dX3_back_42 : decode cX3_back 42 = .ok (.ireturn, 1) := by decide +kernel
set_option maxRecDepth 20000 in
theorem ggX3_keep_X3_places : GoodIn wsX3_keep wsX3_places := goodIn_r _ [10, 11, 42, 43, 44, 45, 46, 47, 48, 49] (by decide +kernel) (by decide +kernel)
set_option maxRecDepth 20000 in
theorem gX3_keep_X3_places : GoodIn wsX3_keep (wsV RX3 52 RX3 yX3_places wsX3_places) := goodIn_app (goodIn_of _ (by decide +kernel)) ggX3_keep_X3_places
set_option maxRecDepth 20000 in
theorem ggX3_keep_X2_cutInto : GoodIn wsX3_keep wsX2_cutInto := goodIn_r _ [16, 17, 18, 19, 15, 20, 21, 22, 23, 24, 25, 26, 27, 28, 29, 30, 31, 32, 33, 34, 35, 36, 37, 38, 39, 40, 41, 50] (by decide +kernel) (by decide +kernel)
set_option maxRecDepth 20000 in
theorem gX3_keep_X2_cutInto : GoodIn wsX3_keep (wsV RX3 116 RX2 yX2_cutInto wsX2_cutInto) := goodIn_app (goodIn_of _ (by decide +kernel)) ggX3_keep_X2_cutInto
theorem dX3_keep_0 : decode cX3_keep 0 = .ok (.aload_n 0, 1) := by decide +kernel
theorem dX3_keep_1 : decode cX3_keep 1 = .ok (.getfield 20, 3) := by decide +kernel
theorem dX3_keep_4 : decode cX3_keep 4 = .ok (.ifCond .ne 13, 3) := by decide +kernel
theorem dX3_keep_7 : decode cX3_keep 7 = .ok (.new 111, 3) := by decide +kernel
theorem dX3_keep_10 : decode cX3_keep 10 = .ok (.dup, 1) := by decide +kernel
theorem dX3_keep_11 : decode cX3_keep 11 = .ok (.ldc 113, 2) := by decide +kernel
theorem dX3_keep_13 : decode cX3_keep 13 = .ok (.invokespecial 115, 3) := by decide +kernel
theorem dX3_keep_16 : decode cX3_keep 16 = .ok (.athrow, 1) := by decide +kernel
theorem dX3_keep_17 : decode cX3_keep 17 = .ok (.aload_n 0, 1) := by decide +kernel
theorem dX3_keep_18 : decode cX3_keep 18 = .ok (.getfield 28, 3) := by decide +kernel
theorem dX3_keep_21 : decode cX3_keep 21 = .ok (.aload_n 0, 1) := by decide +kernel
theorem dX3_keep_22 : decode cX3_keep 22 = .ok (.getfield 13, 3) := by decide +kernel
theorem dX3_keep_25 : decode cX3_keep 25 = .ok (.aload_n 0, 1) := by decide +kernel
theorem dX3_keep_26 : decode cX3_keep 26 = .ok (.invokevirtual 52, 3) := by decide +kernel
theorem dX3_keep_29 : decode cX3_keep 29 = .ok (.invokevirtual 116, 3) := by decide +kernel
theorem dX3_keep_32 : decode cX3_keep 32 = .ok (.return_, 1) := by decide +kernel
set_option maxRecDepth 20000 in
theorem ggX3_product_X3_requirePrime : GoodIn wsX3_product wsX3_requirePrime := goodIn_ca (goodIn_r _ [6, 7, 8, 1] (by decide +kernel) (by decide +kernel)) (goodIn_sub (fun _ h => List.mem_cons_of_mem _ (List.mem_append_right _ h)) (by decide +kernel))
set_option maxRecDepth 20000 in
theorem gX3_product_X3_requirePrime : GoodIn wsX3_product (wsV RX3 88 RX3 yX3_requirePrime wsX3_requirePrime) := goodIn_app (goodIn_of _ (by decide +kernel)) ggX3_product_X3_requirePrime
set_option maxRecDepth 20000 in
theorem ggX3_product_X1_remainder : GoodIn wsX3_product wsX1_remainder := goodIn_r _ [12] (by decide +kernel) (by decide +kernel)
set_option maxRecDepth 20000 in
theorem gX3_product_X1_remainder : GoodIn wsX3_product (va_wsS RX3 120 yX1_remainder wsX1_remainder) := goodIn_app (goodIn_of _ (by decide +kernel)) ggX3_product_X1_remainder
theorem dX3_product_0 : decode cX3_product 0 = .ok (.aload_n 0, 1) := by decide +kernel
theorem dX3_product_1 : decode cX3_product 1 = .ok (.iload_n 1, 1) := by decide +kernel
theorem dX3_product_2 : decode cX3_product 2 = .ok (.invokevirtual 88, 3) := by decide +kernel
theorem dX3_product_5 : decode cX3_product 5 = .ok (.iload_n 2, 1) := by decide +kernel
theorem dX3_product_6 : decode cX3_product 6 = .ok (.i2l, 1) := by decide +kernel
theorem dX3_product_7 : decode cX3_product 7 = .ok (.iload_n 3, 1) := by decide +kernel
theorem dX3_product_8 : decode cX3_product 8 = .ok (.i2l, 1) := by decide +kernel
theorem dX3_product_9 : decode cX3_product 9 = .ok (.lmul, 1) := by decide +kernel
theorem dX3_product_10 : decode cX3_product 10 = .ok (.getstatic 99, 3) := by decide +kernel
theorem dX3_product_13 : decode cX3_product 13 = .ok (.iload_n 1, 1) := by decide +kernel
theorem dX3_product_14 : decode cX3_product 14 = .ok (.iaload, 1) := by decide +kernel
theorem dX3_product_15 : decode cX3_product 15 = .ok (.invokestatic 120, 3) := by decide +kernel
theorem dX3_product_18 : decode cX3_product 18 = .ok (.l2i, 1) := by decide +kernel
theorem dX3_product_19 : decode cX3_product 19 = .ok (.ireturn, 1) := by decide +kernel
set_option maxRecDepth 20000 in
theorem ggX3_root_X3_requirePrime : GoodIn wsX3_root wsX3_requirePrime := goodIn_ca (goodIn_r _ [5, 6, 7, 8] (by decide +kernel) (by decide +kernel)) (goodIn_sub (fun _ h => List.mem_cons_of_mem _ (List.mem_append_right _ h)) (by decide +kernel))
set_option maxRecDepth 20000 in
theorem gX3_root_X3_requirePrime : GoodIn wsX3_root (wsV RX3 88 RX3 yX3_requirePrime wsX3_requirePrime) := goodIn_app (goodIn_of _ (by decide +kernel)) ggX3_root_X3_requirePrime
set_option maxRecDepth 20000 in
theorem ggX3_root_X3_rootToThe : GoodIn wsX3_root wsX3_rootToThe := goodIn_r _ [12, 8, 13, 14, 15, 16, 17, 18, 19, 20, 21, 22, 23, 24, 4, 25, 26, 27, 28, 29, 30, 31, 32, 33, 34] (by decide +kernel) (by decide +kernel)
set_option maxRecDepth 20000 in
theorem gX3_root_X3_rootToThe : GoodIn wsX3_root (wsV RX3 95 RX3 yX3_rootToThe wsX3_rootToThe) := goodIn_app (goodIn_of _ (by decide +kernel)) ggX3_root_X3_rootToThe
theorem dX3_root_0 : decode cX3_root 0 = .ok (.aload_n 0, 1) := by decide +kernel
theorem dX3_root_1 : decode cX3_root 1 = .ok (.iload_n 1, 1) := by decide +kernel
theorem dX3_root_2 : decode cX3_root 2 = .ok (.invokevirtual 88, 3) := by decide +kernel
theorem dX3_root_5 : decode cX3_root 5 = .ok (.aload_n 0, 1) := by decide +kernel
theorem dX3_root_6 : decode cX3_root 6 = .ok (.iload_n 1, 1) := by decide +kernel
theorem dX3_root_7 : decode cX3_root 7 = .ok (.iload_n 2, 1) := by decide +kernel
theorem dX3_root_8 : decode cX3_root 8 = .ok (.invokevirtual 95, 3) := by decide +kernel
theorem dX3_root_11 : decode cX3_root 11 = .ok (.l2i, 1) := by decide +kernel
theorem dX3_root_12 : decode cX3_root 12 = .ok (.ireturn, 1) := by decide +kernel
theorem dX3_places_0 : decode cX3_places 0 = .ok (.iconst 1, 1) := by decide +kernel
theorem dX3_places_1 : decode cX3_places 1 = .ok (.aload_n 0, 1) := by decide +kernel
theorem dX3_places_2 : decode cX3_places 2 = .ok (.getfield 9, 3) := by decide +kernel
theorem dX3_places_5 : decode cX3_places 5 = .ok (.ishl, 1) := by decide +kernel
theorem dX3_places_6 : decode cX3_places 6 = .ok (.ireturn, 1) := by decide +kernel
set_option maxRecDepth 20000 in
theorem ggX3_requirePlace_X3_places : GoodIn wsX3_requirePlace wsX3_places := goodIn_r _ [7, 8, 9, 10, 11, 12, 13, 14, 15, 16] (by decide +kernel) (by decide +kernel)
set_option maxRecDepth 20000 in
theorem gX3_requirePlace_X3_places : GoodIn wsX3_requirePlace (wsV RX3 52 RX3 yX3_places wsX3_places) := goodIn_app (goodIn_of _ (by decide +kernel)) ggX3_requirePlace_X3_places
theorem dX3_requirePlace_0 : decode cX3_requirePlace 0 = .ok (.iload_n 1, 1) := by decide +kernel
theorem dX3_requirePlace_1 : decode cX3_requirePlace 1 = .ok (.ifCond .lt 11, 3) := by decide +kernel
theorem dX3_requirePlace_4 : decode cX3_requirePlace 4 = .ok (.iload_n 1, 1) := by decide +kernel
theorem dX3_requirePlace_5 : decode cX3_requirePlace 5 = .ok (.aload_n 0, 1) := by decide +kernel
theorem dX3_requirePlace_6 : decode cX3_requirePlace 6 = .ok (.invokevirtual 52, 3) := by decide +kernel
theorem dX3_requirePlace_9 : decode cX3_requirePlace 9 = .ok (.if_icmp .lt 13, 3) := by decide +kernel
theorem dX3_requirePlace_12 : decode cX3_requirePlace 12 = .ok (.new 122, 3) := by decide +kernel
theorem dX3_requirePlace_15 : decode cX3_requirePlace 15 = .ok (.dup, 1) := by decide +kernel
theorem dX3_requirePlace_16 : decode cX3_requirePlace 16 = .ok (.ldc 124, 2) := by decide +kernel
theorem dX3_requirePlace_18 : decode cX3_requirePlace 18 = .ok (.invokespecial 126, 3) := by decide +kernel
theorem dX3_requirePlace_21 : decode cX3_requirePlace 21 = .ok (.athrow, 1) := by decide +kernel
theorem dX3_requirePlace_22 : decode cX3_requirePlace 22 = .ok (.return_, 1) := by decide +kernel
theorem dX3_requireResult_0 : decode cX3_requireResult 0 = .ok (.iload_n 1, 1) := by decide +kernel
theorem dX3_requireResult_1 : decode cX3_requireResult 1 = .ok (.ifCond .lt 11, 3) := by decide +kernel
theorem dX3_requireResult_4 : decode cX3_requireResult 4 = .ok (.iload_n 1, 1) := by decide +kernel
theorem dX3_requireResult_5 : decode cX3_requireResult 5 = .ok (.aload_n 0, 1) := by decide +kernel
theorem dX3_requireResult_6 : decode cX3_requireResult 6 = .ok (.getfield 20, 3) := by decide +kernel
theorem dX3_requireResult_9 : decode cX3_requireResult 9 = .ok (.if_icmp .lt 13, 3) := by decide +kernel
theorem dX3_requireResult_12 : decode cX3_requireResult 12 = .ok (.new 122, 3) := by decide +kernel
theorem dX3_requireResult_15 : decode cX3_requireResult 15 = .ok (.dup, 1) := by decide +kernel
theorem dX3_requireResult_16 : decode cX3_requireResult 16 = .ok (.ldc 127, 2) := by decide +kernel
theorem dX3_requireResult_18 : decode cX3_requireResult 18 = .ok (.invokespecial 126, 3) := by decide +kernel
theorem dX3_requireResult_21 : decode cX3_requireResult 21 = .ok (.athrow, 1) := by decide +kernel
theorem dX3_requireResult_22 : decode cX3_requireResult 22 = .ok (.return_, 1) := by decide +kernel
theorem dX3_requirePrime_0 : decode cX3_requirePrime 0 = .ok (.iload_n 1, 1) := by decide +kernel
theorem dX3_requirePrime_1 : decode cX3_requirePrime 1 = .ok (.ifCond .lt 11, 3) := by decide +kernel
theorem dX3_requirePrime_4 : decode cX3_requirePrime 4 = .ok (.iload_n 1, 1) := by decide +kernel
theorem dX3_requirePrime_5 : decode cX3_requirePrime 5 = .ok (.getstatic 99, 3) := by decide +kernel
theorem dX3_requirePrime_8 : decode cX3_requirePrime 8 = .ok (.arraylength, 1) := by decide +kernel
theorem dX3_requirePrime_9 : decode cX3_requirePrime 9 = .ok (.if_icmp .lt 13, 3) := by decide +kernel
theorem dX3_requirePrime_12 : decode cX3_requirePrime 12 = .ok (.new 45, 3) := by decide +kernel
theorem dX3_requirePrime_15 : decode cX3_requirePrime 15 = .ok (.dup, 1) := by decide +kernel
theorem dX3_requirePrime_16 : decode cX3_requirePrime 16 = .ok (.ldc 129, 2) := by decide +kernel
theorem dX3_requirePrime_18 : decode cX3_requirePrime 18 = .ok (.invokespecial 49, 3) := by decide +kernel
theorem dX3_requirePrime_21 : decode cX3_requirePrime 21 = .ok (.athrow, 1) := by decide +kernel
theorem dX3_requirePrime_22 : decode cX3_requirePrime 22 = .ok (.return_, 1) := by decide +kernel
set_option maxRecDepth 20000 in
theorem ggX3_foldRowAWith_X0_foldRows : GoodIn wsX3_foldRowAWith wsX0_foldRows := goodIn_r _ [9, 10, 11, 12, 13, 14, 8, 15, 16, 17, 18, 19, 20, 21, 22, 23, 24, 25, 26, 27, 28, 29, 30, 31, 32, 33, 34, 35, 36, 37, 38, 39, 40, 41, 42, 43, 44, 45, 46, 47, 48, 49, 50, 51, 52, 53, 54, 55, 56, 57, 58, 59, 60, 61, 62, 63, 64, 65, 66, 67, 68, 107, 108, 109, 110] (by decide +kernel) (by decide +kernel)
set_option maxRecDepth 20000 in
theorem gX3_foldRowAWith_X0_foldRows : GoodIn wsX3_foldRowAWith (wsV RX3 61 RX0 yX0_foldRows wsX0_foldRows) := goodIn_app (goodIn_of _ (by decide +kernel)) ggX3_foldRowAWith_X0_foldRows
set_option maxRecDepth 20000 in
theorem ggX3_foldRowAWith_X3_places : GoodIn wsX3_foldRowAWith wsX3_places := goodIn_r _ [73, 3, 99, 100, 101, 102, 103, 104, 105, 106] (by decide +kernel) (by decide +kernel)
set_option maxRecDepth 20000 in
theorem gX3_foldRowAWith_X3_places : GoodIn wsX3_foldRowAWith (wsV RX3 52 RX3 yX3_places wsX3_places) := goodIn_app (goodIn_of _ (by decide +kernel)) ggX3_foldRowAWith_X3_places
set_option maxRecDepth 20000 in
theorem ggX3_foldRowAWith_X2_cutInto : GoodIn wsX3_foldRowAWith wsX2_cutInto := goodIn_r _ [77, 78, 79, 80, 66, 81, 82, 83, 84, 85, 86, 68, 87, 88, 89, 90, 17, 18, 19, 91, 92, 93, 94, 95, 96, 97, 98, 110] (by decide +kernel) (by decide +kernel)
set_option maxRecDepth 20000 in
theorem gX3_foldRowAWith_X2_cutInto : GoodIn wsX3_foldRowAWith (wsV RX3 116 RX2 yX2_cutInto wsX2_cutInto) := goodIn_app (goodIn_of _ (by decide +kernel)) ggX3_foldRowAWith_X2_cutInto
theorem dX3_foldRowAWith_0 : decode cX3_foldRowAWith 0 = .ok (.aload_n 0, 1) := by decide +kernel
theorem dX3_foldRowAWith_1 : decode cX3_foldRowAWith 1 = .ok (.getfield 35, 3) := by decide +kernel
theorem dX3_foldRowAWith_4 : decode cX3_foldRowAWith 4 = .ok (.aload_n 0, 1) := by decide +kernel
theorem dX3_foldRowAWith_5 : decode cX3_foldRowAWith 5 = .ok (.getfield 13, 3) := by decide +kernel
theorem dX3_foldRowAWith_8 : decode cX3_foldRowAWith 8 = .ok (.aload_n 1, 1) := by decide +kernel
theorem dX3_foldRowAWith_9 : decode cX3_foldRowAWith 9 = .ok (.aload_n 0, 1) := by decide +kernel
theorem dX3_foldRowAWith_10 : decode cX3_foldRowAWith 10 = .ok (.getfield 9, 3) := by decide +kernel
theorem dX3_foldRowAWith_13 : decode cX3_foldRowAWith 13 = .ok (.iconst 0, 1) := by decide +kernel
theorem dX3_foldRowAWith_14 : decode cX3_foldRowAWith 14 = .ok (.aload_n 0, 1) := by decide +kernel
theorem dX3_foldRowAWith_15 : decode cX3_foldRowAWith 15 = .ok (.getfield 39, 3) := by decide +kernel
theorem dX3_foldRowAWith_18 : decode cX3_foldRowAWith 18 = .ok (.invokevirtual 61, 3) := by decide +kernel
theorem dX3_foldRowAWith_21 : decode cX3_foldRowAWith 21 = .ok (.aload_n 0, 1) := by decide +kernel
theorem dX3_foldRowAWith_22 : decode cX3_foldRowAWith 22 = .ok (.getfield 39, 3) := by decide +kernel
theorem dX3_foldRowAWith_25 : decode cX3_foldRowAWith 25 = .ok (.aload_n 0, 1) := by decide +kernel
theorem dX3_foldRowAWith_26 : decode cX3_foldRowAWith 26 = .ok (.getfield 13, 3) := by decide +kernel
theorem dX3_foldRowAWith_29 : decode cX3_foldRowAWith 29 = .ok (.aload_n 0, 1) := by decide +kernel
theorem dX3_foldRowAWith_30 : decode cX3_foldRowAWith 30 = .ok (.invokevirtual 52, 3) := by decide +kernel
theorem dX3_foldRowAWith_33 : decode cX3_foldRowAWith 33 = .ok (.invokevirtual 116, 3) := by decide +kernel
theorem dX3_foldRowAWith_36 : decode cX3_foldRowAWith 36 = .ok (.return_, 1) := by decide +kernel
set_option maxRecDepth 20000 in
theorem ggX3_rootToThe_X1_rootOfOne : GoodIn wsX3_rootToThe wsX1_rootOfOne := goodIn_r _ [6, 7, 8, 9, 5, 10] (by decide +kernel) (by decide +kernel)
set_option maxRecDepth 20000 in
theorem gX3_rootToThe_X1_rootOfOne : GoodIn wsX3_rootToThe (va_wsS RX3 131 yX1_rootOfOne wsX1_rootOfOne) := goodIn_app (goodIn_of _ (by decide +kernel)) ggX3_rootToThe_X1_rootOfOne
set_option maxRecDepth 20000 in
theorem ggX3_rootToThe_X3_places : GoodIn wsX3_rootToThe wsX3_places := goodIn_r _ [15, 2, 17, 18, 19, 20, 21, 22, 23, 24] (by decide +kernel) (by decide +kernel)
set_option maxRecDepth 20000 in
theorem gX3_rootToThe_X3_places : GoodIn wsX3_rootToThe (wsV RX3 52 RX3 yX3_places wsX3_places) := goodIn_app (goodIn_of _ (by decide +kernel)) ggX3_rootToThe_X3_places
set_option maxRecDepth 20000 in
theorem ggX3_rootToThe_X1_raise : GoodIn wsX3_rootToThe wsX1_raise := goodIn_r _ [10] (by decide +kernel) (by decide +kernel)
set_option maxRecDepth 20000 in
theorem gX3_rootToThe_X1_raise : GoodIn wsX3_rootToThe (va_wsS RX3 134 yX1_raise wsX1_raise) := goodIn_app (goodIn_of _ (by decide +kernel)) ggX3_rootToThe_X1_raise
theorem dX3_rootToThe_0 : decode cX3_rootToThe 0 = .ok (.getstatic 99, 3) := by decide +kernel
theorem dX3_rootToThe_3 : decode cX3_rootToThe 3 = .ok (.iload_n 1, 1) := by decide +kernel
theorem dX3_rootToThe_4 : decode cX3_rootToThe 4 = .ok (.iaload, 1) := by decide +kernel
theorem dX3_rootToThe_5 : decode cX3_rootToThe 5 = .ok (.istore_n 3, 1) := by decide +kernel
theorem dX3_rootToThe_6 : decode cX3_rootToThe 6 = .ok (.aload_n 0, 1) := by decide +kernel
theorem dX3_rootToThe_7 : decode cX3_rootToThe 7 = .ok (.getfield 9, 3) := by decide +kernel
theorem dX3_rootToThe_10 : decode cX3_rootToThe 10 = .ok (.iload_n 3, 1) := by decide +kernel
theorem dX3_rootToThe_11 : decode cX3_rootToThe 11 = .ok (.invokestatic 131, 3) := by decide +kernel
theorem dX3_rootToThe_14 : decode cX3_rootToThe 14 = .ok (.iload_n 2, 1) := by decide +kernel
theorem dX3_rootToThe_15 : decode cX3_rootToThe 15 = .ok (.aload_n 0, 1) := by decide +kernel
theorem dX3_rootToThe_16 : decode cX3_rootToThe 16 = .ok (.invokevirtual 52, 3) := by decide +kernel
theorem dX3_rootToThe_19 : decode cX3_rootToThe 19 = .ok (.iconst 1, 1) := by decide +kernel
theorem dX3_rootToThe_20 : decode cX3_rootToThe 20 = .ok (.isub, 1) := by decide +kernel
theorem dX3_rootToThe_21 : decode cX3_rootToThe 21 = .ok (.iand, 1) := by decide +kernel
theorem dX3_rootToThe_22 : decode cX3_rootToThe 22 = .ok (.iload_n 3, 1) := by decide +kernel
theorem dX3_rootToThe_23 : decode cX3_rootToThe 23 = .ok (.invokestatic 134, 3) := by decide +kernel
theorem dX3_rootToThe_26 : decode cX3_rootToThe 26 = .ok (.lreturn, 1) := by decide +kernel
set_option maxRecDepth 20000 in
theorem ggX3_rowAAt_X3_places : GoodIn wsX3_rowAAt wsX3_places := goodIn_r _ [6, 7, 12, 13, 14, 15, 16, 17, 18, 19] (by decide +kernel) (by decide +kernel)
set_option maxRecDepth 20000 in
theorem gX3_rowAAt_X3_places : GoodIn wsX3_rowAAt (wsV RX3 52 RX3 yX3_places wsX3_places) := goodIn_app (goodIn_of _ (by decide +kernel)) ggX3_rowAAt_X3_places
set_option maxRecDepth 20000 in
theorem ggX3_rowAAt_X1_remainder : GoodIn wsX3_rowAAt wsX1_remainder := goodIn_r _ [11] (by decide +kernel) (by decide +kernel)
set_option maxRecDepth 20000 in
theorem gX3_rowAAt_X1_remainder : GoodIn wsX3_rowAAt (va_wsS RX3 120 yX1_remainder wsX1_remainder) := goodIn_app (goodIn_of _ (by decide +kernel)) ggX3_rowAAt_X1_remainder
theorem dX3_rowAAt_0 : decode cX3_rowAAt 0 = .ok (.lconst 0, 1) := by decide +kernel
theorem dX3_rowAAt_1 : decode cX3_rowAAt 1 = .ok (.lstore 4, 2) := by decide +kernel
theorem dX3_rowAAt_3 : decode cX3_rowAAt 3 = .ok (.aload_n 0, 1) := by decide +kernel
theorem dX3_rowAAt_4 : decode cX3_rowAAt 4 = .ok (.invokevirtual 52, 3) := by decide +kernel
theorem dX3_rowAAt_7 : decode cX3_rowAAt 7 = .ok (.iconst 1, 1) := by decide +kernel
theorem dX3_rowAAt_8 : decode cX3_rowAAt 8 = .ok (.isub, 1) := by decide +kernel
theorem dX3_rowAAt_9 : decode cX3_rowAAt 9 = .ok (.istore 6, 2) := by decide +kernel
theorem dX3_rowAAt_11 : decode cX3_rowAAt 11 = .ok (.iload 6, 2) := by decide +kernel
theorem dX3_rowAAt_13 : decode cX3_rowAAt 13 = .ok (.ifCond .lt 27, 3) := by decide +kernel
theorem dX3_rowAAt_16 : decode cX3_rowAAt 16 = .ok (.lload 4, 2) := by decide +kernel
theorem dX3_rowAAt_18 : decode cX3_rowAAt 18 = .ok (.lload_n 1, 1) := by decide +kernel
theorem dX3_rowAAt_19 : decode cX3_rowAAt 19 = .ok (.lmul, 1) := by decide +kernel
theorem dX3_rowAAt_20 : decode cX3_rowAAt 20 = .ok (.aload_n 0, 1) := by decide +kernel
theorem dX3_rowAAt_21 : decode cX3_rowAAt 21 = .ok (.getfield 13, 3) := by decide +kernel
theorem dX3_rowAAt_24 : decode cX3_rowAAt 24 = .ok (.iload 6, 2) := by decide +kernel
theorem dX3_rowAAt_26 : decode cX3_rowAAt 26 = .ok (.iaload, 1) := by decide +kernel
theorem dX3_rowAAt_27 : decode cX3_rowAAt 27 = .ok (.i2l, 1) := by decide +kernel
theorem dX3_rowAAt_28 : decode cX3_rowAAt 28 = .ok (.ladd, 1) := by decide +kernel
theorem dX3_rowAAt_29 : decode cX3_rowAAt 29 = .ok (.iload_n 3, 1) := by decide +kernel
theorem dX3_rowAAt_30 : decode cX3_rowAAt 30 = .ok (.i2l, 1) := by decide +kernel
theorem dX3_rowAAt_31 : decode cX3_rowAAt 31 = .ok (.lrem, 1) := by decide +kernel
theorem dX3_rowAAt_32 : decode cX3_rowAAt 32 = .ok (.lstore 4, 2) := by decide +kernel
theorem dX3_rowAAt_34 : decode cX3_rowAAt 34 = .ok (.iinc 6 (-1), 3) := by decide +kernel
theorem dX3_rowAAt_37 : decode cX3_rowAAt 37 = .ok (.goto (-26), 3) := by decide +kernel
theorem dX3_rowAAt_40 : decode cX3_rowAAt 40 = .ok (.lload 4, 2) := by decide +kernel
theorem dX3_rowAAt_42 : decode cX3_rowAAt 42 = .ok (.iload_n 3, 1) := by decide +kernel
theorem dX3_rowAAt_43 : decode cX3_rowAAt 43 = .ok (.invokestatic 120, 3) := by decide +kernel
theorem dX3_rowAAt_46 : decode cX3_rowAAt 46 = .ok (.lreturn, 1) := by decide +kernel
theorem dX4_init_0 : decode cX4_init 0 = .ok (.aload_n 0, 1) := by decide +kernel
theorem dX4_init_1 : decode cX4_init 1 = .ok (.invokespecial 1, 3) := by decide +kernel
theorem dX4_init_4 : decode cX4_init 4 = .ok (.aload_n 0, 1) := by decide +kernel
theorem dX4_init_5 : decode cX4_init 5 = .ok (.iconst 2, 1) := by decide +kernel
theorem dX4_init_6 : decode cX4_init 6 = .ok (.putfield 7, 3) := by decide +kernel
theorem dX4_init_9 : decode cX4_init 9 = .ok (.aload_n 0, 1) := by decide +kernel
theorem dX4_init_10 : decode cX4_init 10 = .ok (.sipush 256, 3) := by decide +kernel
theorem dX4_init_13 : decode cX4_init 13 = .ok (.newarray .int, 2) := by decide +kernel
theorem dX4_init_15 : decode cX4_init 15 = .ok (.putfield 13, 3) := by decide +kernel
theorem dX4_init_18 : decode cX4_init 18 = .ok (.aload_n 0, 1) := by decide +kernel
theorem dX4_init_19 : decode cX4_init 19 = .ok (.sipush 256, 3) := by decide +kernel
theorem dX4_init_22 : decode cX4_init 22 = .ok (.newarray .int, 2) := by decide +kernel
theorem dX4_init_24 : decode cX4_init 24 = .ok (.putfield 17, 3) := by decide +kernel
theorem dX4_init_27 : decode cX4_init 27 = .ok (.aload_n 0, 1) := by decide +kernel
theorem dX4_init_28 : decode cX4_init 28 = .ok (.sipush 511, 3) := by decide +kernel
theorem dX4_init_31 : decode cX4_init 31 = .ok (.newarray .long, 2) := by decide +kernel
theorem dX4_init_33 : decode cX4_init 33 = .ok (.putfield 20, 3) := by decide +kernel
theorem dX4_init_36 : decode cX4_init 36 = .ok (.aload_n 0, 1) := by decide +kernel
theorem dX4_init_37 : decode cX4_init 37 = .ok (.sipush 511, 3) := by decide +kernel
theorem dX4_init_40 : decode cX4_init 40 = .ok (.newarray .long, 2) := by decide +kernel
theorem dX4_init_42 : decode cX4_init 42 = .ok (.putfield 24, 3) := by decide +kernel
theorem dX4_init_45 : decode cX4_init 45 = .ok (.aload_n 0, 1) := by decide +kernel
theorem dX4_init_46 : decode cX4_init 46 = .ok (.sipush 256, 3) := by decide +kernel
theorem dX4_init_49 : decode cX4_init 49 = .ok (.newarray .int, 2) := by decide +kernel
theorem dX4_init_51 : decode cX4_init 51 = .ok (.putfield 27, 3) := by decide +kernel
theorem dX4_init_54 : decode cX4_init 54 = .ok (.aload_n 0, 1) := by decide +kernel
theorem dX4_init_55 : decode cX4_init 55 = .ok (.sipush 256, 3) := by decide +kernel
theorem dX4_init_58 : decode cX4_init 58 = .ok (.newarray .int, 2) := by decide +kernel
theorem dX4_init_60 : decode cX4_init 60 = .ok (.putfield 30, 3) := by decide +kernel
theorem dX4_init_63 : decode cX4_init 63 = .ok (.aload_n 0, 1) := by decide +kernel
theorem dX4_init_64 : decode cX4_init 64 = .ok (.sipush 256, 3) := by decide +kernel
theorem dX4_init_67 : decode cX4_init 67 = .ok (.newarray .int, 2) := by decide +kernel
theorem dX4_init_69 : decode cX4_init 69 = .ok (.putfield 33, 3) := by decide +kernel
theorem dX4_init_72 : decode cX4_init 72 = .ok (.return_, 1) := by decide +kernel
theorem dX4_thrown_0 : decode cX4_thrown 0 = .ok (.aload_n 0, 1) := by decide +kernel
theorem dX4_thrown_1 : decode cX4_thrown 1 = .ok (.getfield 36, 3) := by decide +kernel
theorem dX4_thrown_4 : decode cX4_thrown 4 = .ok (.ireturn, 1) := by decide +kernel
theorem dX4_size_0 : decode cX4_size 0 = .ok (.aload_n 0, 1) := by decide +kernel
theorem dX4_size_1 : decode cX4_size 1 = .ok (.iload_n 1, 1) := by decide +kernel
theorem dX4_size_2 : decode cX4_size 2 = .ok (.iconst 1, 1) := by decide +kernel
theorem dX4_size_3 : decode cX4_size 3 = .ok (.if_icmp .lt 9, 3) := by decide +kernel
theorem dX4_size_6 : decode cX4_size 6 = .ok (.iload_n 1, 1) := by decide +kernel
theorem dX4_size_7 : decode cX4_size 7 = .ok (.bipush 8, 2) := by decide +kernel
theorem dX4_size_9 : decode cX4_size 9 = .ok (.if_icmp .le 7, 3) := by decide +kernel
theorem dX4_size_12 : decode cX4_size 12 = .ok (.iconst 1, 1) := by decide +kernel
theorem dX4_size_13 : decode cX4_size 13 = .ok (.goto 4, 3) := by decide +kernel
theorem dX4_size_16 : decode cX4_size 16 = .ok (.iconst 0, 1) := by decide +kernel
theorem dX4_size_17 : decode cX4_size 17 = .ok (.putfield 36, 3) := by decide +kernel
theorem dX4_size_20 : decode cX4_size 20 = .ok (.aload_n 0, 1) := by decide +kernel
theorem dX4_size_21 : decode cX4_size 21 = .ok (.getfield 36, 3) := by decide +kernel
theorem dX4_size_24 : decode cX4_size 24 = .ok (.ifCond .le 4, 3) := by decide +kernel
theorem dX4_size_27 : decode cX4_size 27 = .ok (.return_, 1) := by decide +kernel
theorem dX4_size_28 : decode cX4_size 28 = .ok (.aload_n 0, 1) := by decide +kernel
theorem dX4_size_29 : decode cX4_size 29 = .ok (.iconst 1, 1) := by decide +kernel
theorem dX4_size_30 : decode cX4_size 30 = .ok (.iload_n 1, 1) := by decide +kernel
theorem dX4_size_31 : decode cX4_size 31 = .ok (.ishl, 1) := by decide +kernel
theorem dX4_size_32 : decode cX4_size 32 = .ok (.putfield 7, 3) := by decide +kernel
theorem dX4_size_35 : decode cX4_size 35 = .ok (.aload_n 0, 1) := by decide +kernel
theorem dX4_size_36 : decode cX4_size 36 = .ok (.iconst 0, 1) := by decide +kernel
theorem dX4_size_37 : decode cX4_size 37 = .ok (.putfield 39, 3) := by decide +kernel
theorem dX4_size_40 : decode cX4_size 40 = .ok (.iconst 0, 1) := by decide +kernel
theorem dX4_size_41 : decode cX4_size 41 = .ok (.istore_n 2, 1) := by decide +kernel
theorem dX4_size_42 : decode cX4_size 42 = .ok (.iload_n 2, 1) := by decide +kernel
theorem dX4_size_43 : decode cX4_size 43 = .ok (.sipush 256, 3) := by decide +kernel
theorem dX4_size_46 : decode cX4_size 46 = .ok (.if_icmp .ge 23, 3) := by decide +kernel
theorem dX4_size_49 : decode cX4_size 49 = .ok (.aload_n 0, 1) := by decide +kernel
theorem dX4_size_50 : decode cX4_size 50 = .ok (.getfield 13, 3) := by decide +kernel
theorem dX4_size_53 : decode cX4_size 53 = .ok (.iload_n 2, 1) := by decide +kernel
theorem dX4_size_54 : decode cX4_size 54 = .ok (.iconst 0, 1) := by decide +kernel
theorem dX4_size_55 : decode cX4_size 55 = .ok (.iastore, 1) := by decide +kernel
theorem dX4_size_56 : decode cX4_size 56 = .ok (.aload_n 0, 1) := by decide +kernel
theorem dX4_size_57 : decode cX4_size 57 = .ok (.getfield 17, 3) := by decide +kernel
theorem dX4_size_60 : decode cX4_size 60 = .ok (.iload_n 2, 1) := by decide +kernel
theorem dX4_size_61 : decode cX4_size 61 = .ok (.iconst 0, 1) := by decide +kernel
theorem dX4_size_62 : decode cX4_size 62 = .ok (.iastore, 1) := by decide +kernel
theorem dX4_size_63 : decode cX4_size 63 = .ok (.iinc 2 1, 3) := by decide +kernel
theorem dX4_size_66 : decode cX4_size 66 = .ok (.goto (-24), 3) := by decide +kernel
theorem dX4_size_69 : decode cX4_size 69 = .ok (.return_, 1) := by decide +kernel
theorem dX4_noPlace_0 : decode cX4_noPlace 0 = .ok (.aload_n 0, 1) := by decide +kernel
theorem dX4_noPlace_1 : decode cX4_noPlace 1 = .ok (.iload_n 1, 1) := by decide +kernel
theorem dX4_noPlace_2 : decode cX4_noPlace 2 = .ok (.ifCond .lt 11, 3) := by decide +kernel
theorem dX4_noPlace_5 : decode cX4_noPlace 5 = .ok (.iload_n 1, 1) := by decide +kernel
theorem dX4_noPlace_6 : decode cX4_noPlace 6 = .ok (.aload_n 0, 1) := by decide +kernel
theorem dX4_noPlace_7 : decode cX4_noPlace 7 = .ok (.getfield 7, 3) := by decide +kernel
theorem dX4_noPlace_10 : decode cX4_noPlace 10 = .ok (.if_icmp .lt 7, 3) := by decide +kernel
theorem dX4_noPlace_13 : decode cX4_noPlace 13 = .ok (.iconst 1, 1) := by decide +kernel
theorem dX4_noPlace_14 : decode cX4_noPlace 14 = .ok (.goto 4, 3) := by decide +kernel
theorem dX4_noPlace_17 : decode cX4_noPlace 17 = .ok (.iconst 0, 1) := by decide +kernel
theorem dX4_noPlace_18 : decode cX4_noPlace 18 = .ok (.putfield 36, 3) := by decide +kernel
theorem dX4_noPlace_21 : decode cX4_noPlace 21 = .ok (.aload_n 0, 1) := by decide +kernel
theorem dX4_noPlace_22 : decode cX4_noPlace 22 = .ok (.getfield 36, 3) := by decide +kernel
theorem dX4_noPlace_25 : decode cX4_noPlace 25 = .ok (.ifCond .le 7, 3) := by decide +kernel
theorem dX4_noPlace_28 : decode cX4_noPlace 28 = .ok (.iconst 1, 1) := by decide +kernel
theorem dX4_noPlace_29 : decode cX4_noPlace 29 = .ok (.goto 4, 3) := by decide +kernel
theorem dX4_noPlace_32 : decode cX4_noPlace 32 = .ok (.iconst 0, 1) := by decide +kernel
theorem dX4_noPlace_33 : decode cX4_noPlace 33 = .ok (.ireturn, 1) := by decide +kernel
set_option maxRecDepth 20000 in
theorem ggX4_setA_X4_noPlace : GoodIn wsX4_setA wsX4_noPlace := goodIn_r _ [6, 7, 8, 9, 10, 11, 12, 13, 14, 15, 16, 17, 18] (by decide +kernel) (by decide +kernel)
set_option maxRecDepth 20000 in
theorem gX4_setA_X4_noPlace : GoodIn wsX4_setA (wsV RX4 42 RX4 yX4_noPlace wsX4_noPlace) := goodIn_app (goodIn_of _ (by decide +kernel)) ggX4_setA_X4_noPlace
theorem dX4_setA_0 : decode cX4_setA 0 = .ok (.aload_n 0, 1) := by decide +kernel
theorem dX4_setA_1 : decode cX4_setA 1 = .ok (.iload_n 1, 1) := by decide +kernel
theorem dX4_setA_2 : decode cX4_setA 2 = .ok (.invokevirtual 42, 3) := by decide +kernel
theorem dX4_setA_5 : decode cX4_setA 5 = .ok (.ifCond .eq 5, 3) := by decide +kernel
theorem dX4_setA_8 : decode cX4_setA 8 = .ok (.iconst 0, 1) := by decide +kernel
theorem dX4_setA_9 : decode cX4_setA 9 = .ok (.ireturn, 1) := by decide +kernel
theorem dX4_setA_10 : decode cX4_setA 10 = .ok (.aload_n 0, 1) := by decide +kernel
theorem dX4_setA_11 : decode cX4_setA 11 = .ok (.getfield 13, 3) := by decide +kernel
theorem dX4_setA_14 : decode cX4_setA 14 = .ok (.iload_n 1, 1) := by decide +kernel
theorem dX4_setA_15 : decode cX4_setA 15 = .ok (.iaload, 1) := by decide +kernel
theorem dX4_setA_16 : decode cX4_setA 16 = .ok (.istore_n 3, 1) := by decide +kernel
theorem dX4_setA_17 : decode cX4_setA 17 = .ok (.aload_n 0, 1) := by decide +kernel
theorem dX4_setA_18 : decode cX4_setA 18 = .ok (.getfield 13, 3) := by decide +kernel
theorem dX4_setA_21 : decode cX4_setA 21 = .ok (.iload_n 1, 1) := by decide +kernel
theorem dX4_setA_22 : decode cX4_setA 22 = .ok (.iload_n 2, 1) := by decide +kernel
theorem dX4_setA_23 : decode cX4_setA 23 = .ok (.iastore, 1) := by decide +kernel
theorem dX4_setA_24 : decode cX4_setA 24 = .ok (.iload_n 3, 1) := by decide +kernel
theorem dX4_setA_25 : decode cX4_setA 25 = .ok (.ireturn, 1) := by decide +kernel
set_option maxRecDepth 20000 in
theorem ggX4_setB_X4_noPlace : GoodIn wsX4_setB wsX4_noPlace := goodIn_r _ [6, 7, 8, 9, 10, 11, 12, 13, 14, 15, 16, 17, 18] (by decide +kernel) (by decide +kernel)
set_option maxRecDepth 20000 in
theorem gX4_setB_X4_noPlace : GoodIn wsX4_setB (wsV RX4 42 RX4 yX4_noPlace wsX4_noPlace) := goodIn_app (goodIn_of _ (by decide +kernel)) ggX4_setB_X4_noPlace
theorem dX4_setB_0 : decode cX4_setB 0 = .ok (.aload_n 0, 1) := by decide +kernel
theorem dX4_setB_1 : decode cX4_setB 1 = .ok (.iload_n 1, 1) := by decide +kernel
theorem dX4_setB_2 : decode cX4_setB 2 = .ok (.invokevirtual 42, 3) := by decide +kernel
theorem dX4_setB_5 : decode cX4_setB 5 = .ok (.ifCond .eq 5, 3) := by decide +kernel
theorem dX4_setB_8 : decode cX4_setB 8 = .ok (.iconst 0, 1) := by decide +kernel
theorem dX4_setB_9 : decode cX4_setB 9 = .ok (.ireturn, 1) := by decide +kernel
theorem dX4_setB_10 : decode cX4_setB 10 = .ok (.aload_n 0, 1) := by decide +kernel
theorem dX4_setB_11 : decode cX4_setB 11 = .ok (.getfield 17, 3) := by decide +kernel
theorem dX4_setB_14 : decode cX4_setB 14 = .ok (.iload_n 1, 1) := by decide +kernel
theorem dX4_setB_15 : decode cX4_setB 15 = .ok (.iaload, 1) := by decide +kernel
theorem dX4_setB_16 : decode cX4_setB 16 = .ok (.istore_n 3, 1) := by decide +kernel
theorem dX4_setB_17 : decode cX4_setB 17 = .ok (.aload_n 0, 1) := by decide +kernel
theorem dX4_setB_18 : decode cX4_setB 18 = .ok (.getfield 17, 3) := by decide +kernel
theorem dX4_setB_21 : decode cX4_setB 21 = .ok (.iload_n 1, 1) := by decide +kernel
theorem dX4_setB_22 : decode cX4_setB 22 = .ok (.iload_n 2, 1) := by decide +kernel
theorem dX4_setB_23 : decode cX4_setB 23 = .ok (.iastore, 1) := by decide +kernel
theorem dX4_setB_24 : decode cX4_setB 24 = .ok (.iload_n 3, 1) := by decide +kernel
theorem dX4_setB_25 : decode cX4_setB 25 = .ok (.ireturn, 1) := by decide +kernel
set_option maxRecDepth 20000 in
theorem ggX4_a_X4_noPlace : GoodIn wsX4_a wsX4_noPlace := goodIn_r _ [6, 7, 8, 9, 10, 11, 12, 13, 14, 15, 16, 17, 18] (by decide +kernel) (by decide +kernel)
set_option maxRecDepth 20000 in
theorem gX4_a_X4_noPlace : GoodIn wsX4_a (wsV RX4 42 RX4 yX4_noPlace wsX4_noPlace) := goodIn_app (goodIn_of _ (by decide +kernel)) ggX4_a_X4_noPlace
theorem dX4_a_0 : decode cX4_a 0 = .ok (.aload_n 0, 1) := by decide +kernel
theorem dX4_a_1 : decode cX4_a 1 = .ok (.iload_n 1, 1) := by decide +kernel
theorem dX4_a_2 : decode cX4_a 2 = .ok (.invokevirtual 42, 3) := by decide +kernel
theorem dX4_a_5 : decode cX4_a 5 = .ok (.ifCond .eq 7, 3) := by decide +kernel
theorem dX4_a_8 : decode cX4_a 8 = .ok (.iconst 0, 1) := by decide +kernel
theorem dX4_a_9 : decode cX4_a 9 = .ok (.goto 9, 3) := by decide +kernel
theorem dX4_a_12 : decode cX4_a 12 = .ok (.aload_n 0, 1) := by decide +kernel
theorem dX4_a_13 : decode cX4_a 13 = .ok (.getfield 13, 3) := by decide +kernel
theorem dX4_a_16 : decode cX4_a 16 = .ok (.iload_n 1, 1) := by decide +kernel
theorem dX4_a_17 : decode cX4_a 17 = .ok (.iaload, 1) := by decide +kernel
theorem dX4_a_18 : decode cX4_a 18 = .ok (.ireturn, 1) := by decide +kernel
set_option maxRecDepth 20000 in
theorem ggX4_b_X4_noPlace : GoodIn wsX4_b wsX4_noPlace := goodIn_r _ [6, 7, 8, 9, 10, 11, 12, 13, 14, 15, 16, 17, 18] (by decide +kernel) (by decide +kernel)
set_option maxRecDepth 20000 in
theorem gX4_b_X4_noPlace : GoodIn wsX4_b (wsV RX4 42 RX4 yX4_noPlace wsX4_noPlace) := goodIn_app (goodIn_of _ (by decide +kernel)) ggX4_b_X4_noPlace
theorem dX4_b_0 : decode cX4_b 0 = .ok (.aload_n 0, 1) := by decide +kernel
theorem dX4_b_1 : decode cX4_b 1 = .ok (.iload_n 1, 1) := by decide +kernel
theorem dX4_b_2 : decode cX4_b 2 = .ok (.invokevirtual 42, 3) := by decide +kernel
theorem dX4_b_5 : decode cX4_b 5 = .ok (.ifCond .eq 7, 3) := by decide +kernel
theorem dX4_b_8 : decode cX4_b 8 = .ok (.iconst 0, 1) := by decide +kernel
theorem dX4_b_9 : decode cX4_b 9 = .ok (.goto 9, 3) := by decide +kernel
theorem dX4_b_12 : decode cX4_b 12 = .ok (.aload_n 0, 1) := by decide +kernel
theorem dX4_b_13 : decode cX4_b 13 = .ok (.getfield 17, 3) := by decide +kernel
theorem dX4_b_16 : decode cX4_b 16 = .ok (.iload_n 1, 1) := by decide +kernel
theorem dX4_b_17 : decode cX4_b 17 = .ok (.iaload, 1) := by decide +kernel
theorem dX4_b_18 : decode cX4_b 18 = .ok (.ireturn, 1) := by decide +kernel
theorem dX4_swap_0 : decode cX4_swap 0 = .ok (.aload_n 0, 1) := by decide +kernel
theorem dX4_swap_1 : decode cX4_swap 1 = .ok (.iconst 0, 1) := by decide +kernel
theorem dX4_swap_2 : decode cX4_swap 2 = .ok (.putfield 36, 3) := by decide +kernel
theorem dX4_swap_5 : decode cX4_swap 5 = .ok (.iconst 0, 1) := by decide +kernel
theorem dX4_swap_6 : decode cX4_swap 6 = .ok (.istore_n 1, 1) := by decide +kernel
theorem dX4_swap_7 : decode cX4_swap 7 = .ok (.iload_n 1, 1) := by decide +kernel
theorem dX4_swap_8 : decode cX4_swap 8 = .ok (.aload_n 0, 1) := by decide +kernel
theorem dX4_swap_9 : decode cX4_swap 9 = .ok (.getfield 7, 3) := by decide +kernel
theorem dX4_swap_12 : decode cX4_swap 12 = .ok (.if_icmp .ge 35, 3) := by decide +kernel
theorem dX4_swap_15 : decode cX4_swap 15 = .ok (.aload_n 0, 1) := by decide +kernel
theorem dX4_swap_16 : decode cX4_swap 16 = .ok (.getfield 13, 3) := by decide +kernel
theorem dX4_swap_19 : decode cX4_swap 19 = .ok (.iload_n 1, 1) := by decide +kernel
theorem dX4_swap_20 : decode cX4_swap 20 = .ok (.iaload, 1) := by decide +kernel
theorem dX4_swap_21 : decode cX4_swap 21 = .ok (.istore_n 2, 1) := by decide +kernel
theorem dX4_swap_22 : decode cX4_swap 22 = .ok (.aload_n 0, 1) := by decide +kernel
theorem dX4_swap_23 : decode cX4_swap 23 = .ok (.getfield 13, 3) := by decide +kernel
theorem dX4_swap_26 : decode cX4_swap 26 = .ok (.iload_n 1, 1) := by decide +kernel
theorem dX4_swap_27 : decode cX4_swap 27 = .ok (.aload_n 0, 1) := by decide +kernel
theorem dX4_swap_28 : decode cX4_swap 28 = .ok (.getfield 17, 3) := by decide +kernel
theorem dX4_swap_31 : decode cX4_swap 31 = .ok (.iload_n 1, 1) := by decide +kernel
theorem dX4_swap_32 : decode cX4_swap 32 = .ok (.iaload, 1) := by decide +kernel
theorem dX4_swap_33 : decode cX4_swap 33 = .ok (.iastore, 1) := by decide +kernel
theorem dX4_swap_34 : decode cX4_swap 34 = .ok (.aload_n 0, 1) := by decide +kernel
theorem dX4_swap_35 : decode cX4_swap 35 = .ok (.getfield 17, 3) := by decide +kernel
theorem dX4_swap_38 : decode cX4_swap 38 = .ok (.iload_n 1, 1) := by decide +kernel
theorem dX4_swap_39 : decode cX4_swap 39 = .ok (.iload_n 2, 1) := by decide +kernel
theorem dX4_swap_40 : decode cX4_swap 40 = .ok (.iastore, 1) := by decide +kernel
theorem dX4_swap_41 : decode cX4_swap 41 = .ok (.iinc 1 1, 3) := by decide +kernel
theorem dX4_swap_44 : decode cX4_swap 44 = .ok (.goto (-37), 3) := by decide +kernel
theorem dX4_swap_47 : decode cX4_swap 47 = .ok (.return_, 1) := by decide +kernel
theorem dX4_add_0 : decode cX4_add 0 = .ok (.aload_n 0, 1) := by decide +kernel
theorem dX4_add_1 : decode cX4_add 1 = .ok (.getfield 20, 3) := by decide +kernel
theorem dX4_add_4 : decode cX4_add 4 = .ok (.iload_n 1, 1) := by decide +kernel
theorem dX4_add_5 : decode cX4_add 5 = .ok (.laload, 1) := by decide +kernel
theorem dX4_add_6 : decode cX4_add 6 = .ok (.lstore 4, 2) := by decide +kernel
theorem dX4_add_8 : decode cX4_add 8 = .ok (.aload_n 0, 1) := by decide +kernel
theorem dX4_add_9 : decode cX4_add 9 = .ok (.getfield 20, 3) := by decide +kernel
theorem dX4_add_12 : decode cX4_add 12 = .ok (.iload_n 1, 1) := by decide +kernel
theorem dX4_add_13 : decode cX4_add 13 = .ok (.lload 4, 2) := by decide +kernel
theorem dX4_add_15 : decode cX4_add 15 = .ok (.lload_n 2, 1) := by decide +kernel
theorem dX4_add_16 : decode cX4_add 16 = .ok (.ladd, 1) := by decide +kernel
theorem dX4_add_17 : decode cX4_add 17 = .ok (.lastore, 1) := by decide +kernel
theorem dX4_add_18 : decode cX4_add 18 = .ok (.aload_n 0, 1) := by decide +kernel
theorem dX4_add_19 : decode cX4_add 19 = .ok (.getfield 20, 3) := by decide +kernel
theorem dX4_add_22 : decode cX4_add 22 = .ok (.iload_n 1, 1) := by decide +kernel
theorem dX4_add_23 : decode cX4_add 23 = .ok (.laload, 1) := by decide +kernel
theorem dX4_add_24 : decode cX4_add 24 = .ok (.ldc2_w 46, 3) := by decide +kernel
theorem dX4_add_27 : decode cX4_add 27 = .ok (.lxor, 1) := by decide +kernel
theorem dX4_add_28 : decode cX4_add 28 = .ok (.lload 4, 2) := by decide +kernel
theorem dX4_add_30 : decode cX4_add 30 = .ok (.ldc2_w 46, 3) := by decide +kernel
theorem dX4_add_33 : decode cX4_add 33 = .ok (.lxor, 1) := by decide +kernel
theorem dX4_add_34 : decode cX4_add 34 = .ok (.lcmp, 1) := by decide +kernel
theorem dX4_add_35 : decode cX4_add 35 = .ok (.ifCond .ge 7, 3) := by decide +kernel
theorem dX4_add_38 : decode cX4_add 38 = .ok (.iconst 1, 1) := by decide +kernel
theorem dX4_add_39 : decode cX4_add 39 = .ok (.goto 4, 3) := by decide +kernel
theorem dX4_add_42 : decode cX4_add 42 = .ok (.iconst 0, 1) := by decide +kernel
theorem dX4_add_43 : decode cX4_add 43 = .ok (.istore 6, 2) := by decide +kernel
theorem dX4_add_45 : decode cX4_add 45 = .ok (.aload_n 0, 1) := by decide +kernel
theorem dX4_add_46 : decode cX4_add 46 = .ok (.getfield 24, 3) := by decide +kernel
theorem dX4_add_49 : decode cX4_add 49 = .ok (.iload_n 1, 1) := by decide +kernel
theorem dX4_add_50 : decode cX4_add 50 = .ok (.aload_n 0, 1) := by decide +kernel
theorem dX4_add_51 : decode cX4_add 51 = .ok (.getfield 24, 3) := by decide +kernel
theorem dX4_add_54 : decode cX4_add 54 = .ok (.iload_n 1, 1) := by decide +kernel
theorem dX4_add_55 : decode cX4_add 55 = .ok (.laload, 1) := by decide +kernel
theorem dX4_add_56 : decode cX4_add 56 = .ok (.lload_n 2, 1) := by decide +kernel
theorem dX4_add_57 : decode cX4_add 57 = .ok (.lconst 0, 1) := by decide +kernel
theorem dX4_add_58 : decode cX4_add 58 = .ok (.lcmp, 1) := by decide +kernel
theorem dX4_add_59 : decode cX4_add 59 = .ok (.ifCond .ge 9, 3) := by decide +kernel
theorem dX4_add_62 : decode cX4_add 62 = .ok (.ldc2_w 48, 3) := by decide +kernel
theorem dX4_add_65 : decode cX4_add 65 = .ok (.goto 4, 3) := by decide +kernel
theorem dX4_add_68 : decode cX4_add 68 = .ok (.lconst 0, 1) := by decide +kernel
theorem dX4_add_69 : decode cX4_add 69 = .ok (.ladd, 1) := by decide +kernel
theorem dX4_add_70 : decode cX4_add 70 = .ok (.iload 6, 2) := by decide +kernel
theorem dX4_add_72 : decode cX4_add 72 = .ok (.ifCond .eq 7, 3) := by decide +kernel
theorem dX4_add_75 : decode cX4_add 75 = .ok (.lconst 1, 1) := by decide +kernel
theorem dX4_add_76 : decode cX4_add 76 = .ok (.goto 4, 3) := by decide +kernel
theorem dX4_add_79 : decode cX4_add 79 = .ok (.lconst 0, 1) := by decide +kernel
theorem dX4_add_80 : decode cX4_add 80 = .ok (.ladd, 1) := by decide +kernel
theorem dX4_add_81 : decode cX4_add 81 = .ok (.lastore, 1) := by decide +kernel
theorem dX4_add_82 : decode cX4_add 82 = .ok (.return_, 1) := by decide +kernel
set_option maxRecDepth 20000 in
theorem ggX4_fold_X4_add : GoodIn wsX4_fold wsX4_add := goodIn_r _ [12, 4, 13, 5, 14, 15, 16, 17, 18, 19, 20, 21, 22, 23, 24] (by decide +kernel) (by decide +kernel)
set_option maxRecDepth 20000 in
theorem gX4_fold_X4_add : GoodIn wsX4_fold (wsV RX4 50 RX4 yX4_add wsX4_add) := goodIn_app (goodIn_of _ (by decide +kernel)) ggX4_fold_X4_add
theorem dX4_fold_0 : decode cX4_fold 0 = .ok (.aload_n 0, 1) := by decide +kernel
theorem dX4_fold_1 : decode cX4_fold 1 = .ok (.iload_n 1, 1) := by decide +kernel
theorem dX4_fold_2 : decode cX4_fold 2 = .ok (.ifCond .lt 8, 3) := by decide +kernel
theorem dX4_fold_5 : decode cX4_fold 5 = .ok (.iload_n 1, 1) := by decide +kernel
theorem dX4_fold_6 : decode cX4_fold 6 = .ok (.iconst 2, 1) := by decide +kernel
theorem dX4_fold_7 : decode cX4_fold 7 = .ok (.if_icmp .le 7, 3) := by decide +kernel
theorem dX4_fold_10 : decode cX4_fold 10 = .ok (.iconst 1, 1) := by decide +kernel
theorem dX4_fold_11 : decode cX4_fold 11 = .ok (.goto 4, 3) := by decide +kernel
theorem dX4_fold_14 : decode cX4_fold 14 = .ok (.iconst 0, 1) := by decide +kernel
theorem dX4_fold_15 : decode cX4_fold 15 = .ok (.putfield 36, 3) := by decide +kernel
theorem dX4_fold_18 : decode cX4_fold 18 = .ok (.aload_n 0, 1) := by decide +kernel
theorem dX4_fold_19 : decode cX4_fold 19 = .ok (.getfield 36, 3) := by decide +kernel
theorem dX4_fold_22 : decode cX4_fold 22 = .ok (.ifCond .le 5, 3) := by decide +kernel
theorem dX4_fold_25 : decode cX4_fold 25 = .ok (.iconst 0, 1) := by decide +kernel
theorem dX4_fold_26 : decode cX4_fold 26 = .ok (.ireturn, 1) := by decide +kernel
theorem dX4_fold_27 : decode cX4_fold 27 = .ok (.aload_n 0, 1) := by decide +kernel
theorem dX4_fold_28 : decode cX4_fold 28 = .ok (.iload_n 1, 1) := by decide +kernel
theorem dX4_fold_29 : decode cX4_fold 29 = .ok (.iconst 2, 1) := by decide +kernel
theorem dX4_fold_30 : decode cX4_fold 30 = .ok (.if_icmp .ne 14, 3) := by decide +kernel
theorem dX4_fold_33 : decode cX4_fold 33 = .ok (.iconst 2, 1) := by decide +kernel
theorem dX4_fold_34 : decode cX4_fold 34 = .ok (.aload_n 0, 1) := by decide +kernel
theorem dX4_fold_35 : decode cX4_fold 35 = .ok (.getfield 7, 3) := by decide +kernel
theorem dX4_fold_38 : decode cX4_fold 38 = .ok (.imul, 1) := by decide +kernel
theorem dX4_fold_39 : decode cX4_fold 39 = .ok (.iconst 1, 1) := by decide +kernel
theorem dX4_fold_40 : decode cX4_fold 40 = .ok (.isub, 1) := by decide +kernel
theorem dX4_fold_41 : decode cX4_fold 41 = .ok (.goto 7, 3) := by decide +kernel
theorem dX4_fold_44 : decode cX4_fold 44 = .ok (.aload_n 0, 1) := by decide +kernel
theorem dX4_fold_45 : decode cX4_fold 45 = .ok (.getfield 7, 3) := by decide +kernel
theorem dX4_fold_48 : decode cX4_fold 48 = .ok (.putfield 39, 3) := by decide +kernel
theorem dX4_fold_51 : decode cX4_fold 51 = .ok (.iconst 0, 1) := by decide +kernel
theorem dX4_fold_52 : decode cX4_fold 52 = .ok (.istore_n 2, 1) := by decide +kernel
theorem dX4_fold_53 : decode cX4_fold 53 = .ok (.iload_n 2, 1) := by decide +kernel
theorem dX4_fold_54 : decode cX4_fold 54 = .ok (.aload_n 0, 1) := by decide +kernel
theorem dX4_fold_55 : decode cX4_fold 55 = .ok (.getfield 39, 3) := by decide +kernel
theorem dX4_fold_58 : decode cX4_fold 58 = .ok (.if_icmp .ge 23, 3) := by decide +kernel
theorem dX4_fold_61 : decode cX4_fold 61 = .ok (.aload_n 0, 1) := by decide +kernel
theorem dX4_fold_62 : decode cX4_fold 62 = .ok (.getfield 20, 3) := by decide +kernel
theorem dX4_fold_65 : decode cX4_fold 65 = .ok (.iload_n 2, 1) := by decide +kernel
theorem dX4_fold_66 : decode cX4_fold 66 = .ok (.lconst 0, 1) := by decide +kernel
theorem dX4_fold_67 : decode cX4_fold 67 = .ok (.lastore, 1) := by decide +kernel
theorem dX4_fold_68 : decode cX4_fold 68 = .ok (.aload_n 0, 1) := by decide +kernel
theorem dX4_fold_69 : decode cX4_fold 69 = .ok (.getfield 24, 3) := by decide +kernel
theorem dX4_fold_72 : decode cX4_fold 72 = .ok (.iload_n 2, 1) := by decide +kernel
theorem dX4_fold_73 : decode cX4_fold 73 = .ok (.lconst 0, 1) := by decide +kernel
theorem dX4_fold_74 : decode cX4_fold 74 = .ok (.lastore, 1) := by decide +kernel
theorem dX4_fold_75 : decode cX4_fold 75 = .ok (.iinc 2 1, 3) := by decide +kernel
theorem dX4_fold_78 : decode cX4_fold 78 = .ok (.goto (-25), 3) := by decide +kernel
theorem dX4_fold_81 : decode cX4_fold 81 = .ok (.iconst 0, 1) := by decide +kernel
theorem dX4_fold_82 : decode cX4_fold 82 = .ok (.istore_n 2, 1) := by decide +kernel
theorem dX4_fold_83 : decode cX4_fold 83 = .ok (.iload_n 2, 1) := by decide +kernel
theorem dX4_fold_84 : decode cX4_fold 84 = .ok (.aload_n 0, 1) := by decide +kernel
theorem dX4_fold_85 : decode cX4_fold 85 = .ok (.getfield 7, 3) := by decide +kernel
theorem dX4_fold_88 : decode cX4_fold 88 = .ok (.if_icmp .ge 105, 3) := by decide +kernel
theorem dX4_fold_91 : decode cX4_fold 91 = .ok (.iconst 0, 1) := by decide +kernel
theorem dX4_fold_92 : decode cX4_fold 92 = .ok (.istore_n 3, 1) := by decide +kernel
theorem dX4_fold_93 : decode cX4_fold 93 = .ok (.iload_n 3, 1) := by decide +kernel
theorem dX4_fold_94 : decode cX4_fold 94 = .ok (.aload_n 0, 1) := by decide +kernel
theorem dX4_fold_95 : decode cX4_fold 95 = .ok (.getfield 7, 3) := by decide +kernel
theorem dX4_fold_98 : decode cX4_fold 98 = .ok (.if_icmp .ge 89, 3) := by decide +kernel
theorem dX4_fold_101 : decode cX4_fold 101 = .ok (.aload_n 0, 1) := by decide +kernel
theorem dX4_fold_102 : decode cX4_fold 102 = .ok (.getfield 13, 3) := by decide +kernel
theorem dX4_fold_105 : decode cX4_fold 105 = .ok (.iload_n 2, 1) := by decide +kernel
theorem dX4_fold_106 : decode cX4_fold 106 = .ok (.iaload, 1) := by decide +kernel
theorem dX4_fold_107 : decode cX4_fold 107 = .ok (.i2l, 1) := by decide +kernel
theorem dX4_fold_108 : decode cX4_fold 108 = .ok (.aload_n 0, 1) := by decide +kernel
theorem dX4_fold_109 : decode cX4_fold 109 = .ok (.getfield 17, 3) := by decide +kernel
theorem dX4_fold_112 : decode cX4_fold 112 = .ok (.iload_n 3, 1) := by decide +kernel
theorem dX4_fold_113 : decode cX4_fold 113 = .ok (.iaload, 1) := by decide +kernel
theorem dX4_fold_114 : decode cX4_fold 114 = .ok (.i2l, 1) := by decide +kernel
theorem dX4_fold_115 : decode cX4_fold 115 = .ok (.lmul, 1) := by decide +kernel
theorem dX4_fold_116 : decode cX4_fold 116 = .ok (.lstore 4, 2) := by decide +kernel
theorem dX4_fold_118 : decode cX4_fold 118 = .ok (.iload_n 1, 1) := by decide +kernel
theorem dX4_fold_119 : decode cX4_fold 119 = .ok (.iconst 2, 1) := by decide +kernel
theorem dX4_fold_120 : decode cX4_fold 120 = .ok (.if_icmp .ge 17, 3) := by decide +kernel
theorem dX4_fold_123 : decode cX4_fold 123 = .ok (.iload_n 2, 1) := by decide +kernel
theorem dX4_fold_124 : decode cX4_fold 124 = .ok (.iload_n 3, 1) := by decide +kernel
theorem dX4_fold_125 : decode cX4_fold 125 = .ok (.iadd, 1) := by decide +kernel
theorem dX4_fold_126 : decode cX4_fold 126 = .ok (.aload_n 0, 1) := by decide +kernel
theorem dX4_fold_127 : decode cX4_fold 127 = .ok (.getfield 7, 3) := by decide +kernel
theorem dX4_fold_130 : decode cX4_fold 130 = .ok (.if_icmp .lt 7, 3) := by decide +kernel
theorem dX4_fold_133 : decode cX4_fold 133 = .ok (.iconst 1, 1) := by decide +kernel
theorem dX4_fold_134 : decode cX4_fold 134 = .ok (.goto 4, 3) := by decide +kernel
theorem dX4_fold_137 : decode cX4_fold 137 = .ok (.iconst 0, 1) := by decide +kernel
theorem dX4_fold_138 : decode cX4_fold 138 = .ok (.istore 6, 2) := by decide +kernel
theorem dX4_fold_140 : decode cX4_fold 140 = .ok (.aload_n 0, 1) := by decide +kernel
theorem dX4_fold_141 : decode cX4_fold 141 = .ok (.iload 6, 2) := by decide +kernel
theorem dX4_fold_143 : decode cX4_fold 143 = .ok (.ifCond .eq 14, 3) := by decide +kernel
theorem dX4_fold_146 : decode cX4_fold 146 = .ok (.iload_n 2, 1) := by decide +kernel
theorem dX4_fold_147 : decode cX4_fold 147 = .ok (.iload_n 3, 1) := by decide +kernel
theorem dX4_fold_148 : decode cX4_fold 148 = .ok (.iadd, 1) := by decide +kernel
theorem dX4_fold_149 : decode cX4_fold 149 = .ok (.aload_n 0, 1) := by decide +kernel
theorem dX4_fold_150 : decode cX4_fold 150 = .ok (.getfield 7, 3) := by decide +kernel
theorem dX4_fold_153 : decode cX4_fold 153 = .ok (.isub, 1) := by decide +kernel
theorem dX4_fold_154 : decode cX4_fold 154 = .ok (.goto 6, 3) := by decide +kernel
theorem dX4_fold_157 : decode cX4_fold 157 = .ok (.iload_n 2, 1) := by decide +kernel
theorem dX4_fold_158 : decode cX4_fold 158 = .ok (.iload_n 3, 1) := by decide +kernel
theorem dX4_fold_159 : decode cX4_fold 159 = .ok (.iadd, 1) := by decide +kernel
theorem dX4_fold_160 : decode cX4_fold 160 = .ok (.iload 6, 2) := by decide +kernel
theorem dX4_fold_162 : decode cX4_fold 162 = .ok (.ifCond .eq 14, 3) := by decide +kernel
theorem dX4_fold_165 : decode cX4_fold 165 = .ok (.iload_n 1, 1) := by decide +kernel
theorem dX4_fold_166 : decode cX4_fold 166 = .ok (.iconst 1, 1) := by decide +kernel
theorem dX4_fold_167 : decode cX4_fold 167 = .ok (.if_icmp .ne 9, 3) := by decide +kernel
theorem dX4_fold_170 : decode cX4_fold 170 = .ok (.lload 4, 2) := by decide +kernel
theorem dX4_fold_172 : decode cX4_fold 172 = .ok (.lneg, 1) := by decide +kernel
theorem dX4_fold_173 : decode cX4_fold 173 = .ok (.goto 5, 3) := by decide +kernel
theorem dX4_fold_176 : decode cX4_fold 176 = .ok (.lload 4, 2) := by decide +kernel
theorem dX4_fold_178 : decode cX4_fold 178 = .ok (.invokevirtual 50, 3) := by decide +kernel
theorem dX4_fold_181 : decode cX4_fold 181 = .ok (.iinc 3 1, 3) := by decide +kernel
theorem dX4_fold_184 : decode cX4_fold 184 = .ok (.goto (-91), 3) := by decide +kernel
theorem dX4_fold_187 : decode cX4_fold 187 = .ok (.iinc 2 1, 3) := by decide +kernel
theorem dX4_fold_190 : decode cX4_fold 190 = .ok (.goto (-107), 3) := by decide +kernel
theorem dX4_fold_193 : decode cX4_fold 193 = .ok (.aload_n 0, 1) := by decide +kernel
theorem dX4_fold_194 : decode cX4_fold 194 = .ok (.getfield 39, 3) := by decide +kernel
theorem dX4_fold_197 : decode cX4_fold 197 = .ok (.ireturn, 1) := by decide +kernel
theorem dX4_foldKept_0 : decode cX4_foldKept 0 = .ok (.aload_n 0, 1) := by decide +kernel
theorem dX4_foldKept_1 : decode cX4_foldKept 1 = .ok (.getfield 33, 3) := by decide +kernel
theorem dX4_foldKept_4 : decode cX4_foldKept 4 = .ok (.astore_n 1, 1) := by decide +kernel
theorem dX4_foldKept_5 : decode cX4_foldKept 5 = .ok (.iconst 0, 1) := by decide +kernel
theorem dX4_foldKept_6 : decode cX4_foldKept 6 = .ok (.istore_n 2, 1) := by decide +kernel
theorem dX4_foldKept_7 : decode cX4_foldKept 7 = .ok (.iload_n 2, 1) := by decide +kernel
theorem dX4_foldKept_8 : decode cX4_foldKept 8 = .ok (.aload_n 0, 1) := by decide +kernel
theorem dX4_foldKept_9 : decode cX4_foldKept 9 = .ok (.getfield 7, 3) := by decide +kernel
theorem dX4_foldKept_12 : decode cX4_foldKept 12 = .ok (.if_icmp .ge 13, 3) := by decide +kernel
theorem dX4_foldKept_15 : decode cX4_foldKept 15 = .ok (.aload_n 1, 1) := by decide +kernel
theorem dX4_foldKept_16 : decode cX4_foldKept 16 = .ok (.iload_n 2, 1) := by decide +kernel
theorem dX4_foldKept_17 : decode cX4_foldKept 17 = .ok (.iconst 0, 1) := by decide +kernel
theorem dX4_foldKept_18 : decode cX4_foldKept 18 = .ok (.iastore, 1) := by decide +kernel
theorem dX4_foldKept_19 : decode cX4_foldKept 19 = .ok (.iinc 2 1, 3) := by decide +kernel
theorem dX4_foldKept_22 : decode cX4_foldKept 22 = .ok (.goto (-15), 3) := by decide +kernel
theorem dX4_foldKept_25 : decode cX4_foldKept 25 = .ok (.iconst 0, 1) := by decide +kernel
theorem dX4_foldKept_26 : decode cX4_foldKept 26 = .ok (.istore_n 2, 1) := by decide +kernel
theorem dX4_foldKept_27 : decode cX4_foldKept 27 = .ok (.iload_n 2, 1) := by decide +kernel
theorem dX4_foldKept_28 : decode cX4_foldKept 28 = .ok (.aload_n 0, 1) := by decide +kernel
theorem dX4_foldKept_29 : decode cX4_foldKept 29 = .ok (.getfield 7, 3) := by decide +kernel
theorem dX4_foldKept_32 : decode cX4_foldKept 32 = .ok (.if_icmp .ge 57, 3) := by decide +kernel
theorem dX4_foldKept_35 : decode cX4_foldKept 35 = .ok (.iconst 0, 1) := by decide +kernel
theorem dX4_foldKept_36 : decode cX4_foldKept 36 = .ok (.istore_n 3, 1) := by decide +kernel
theorem dX4_foldKept_37 : decode cX4_foldKept 37 = .ok (.iload_n 3, 1) := by decide +kernel
theorem dX4_foldKept_38 : decode cX4_foldKept 38 = .ok (.aload_n 0, 1) := by decide +kernel
theorem dX4_foldKept_39 : decode cX4_foldKept 39 = .ok (.getfield 7, 3) := by decide +kernel
theorem dX4_foldKept_42 : decode cX4_foldKept 42 = .ok (.if_icmp .ge 41, 3) := by decide +kernel
theorem dX4_foldKept_45 : decode cX4_foldKept 45 = .ok (.iload_n 2, 1) := by decide +kernel
theorem dX4_foldKept_46 : decode cX4_foldKept 46 = .ok (.iload_n 3, 1) := by decide +kernel
theorem dX4_foldKept_47 : decode cX4_foldKept 47 = .ok (.iadd, 1) := by decide +kernel
theorem dX4_foldKept_48 : decode cX4_foldKept 48 = .ok (.aload_n 0, 1) := by decide +kernel
theorem dX4_foldKept_49 : decode cX4_foldKept 49 = .ok (.getfield 7, 3) := by decide +kernel
theorem dX4_foldKept_52 : decode cX4_foldKept 52 = .ok (.irem, 1) := by decide +kernel
theorem dX4_foldKept_53 : decode cX4_foldKept 53 = .ok (.istore 4, 2) := by decide +kernel
theorem dX4_foldKept_55 : decode cX4_foldKept 55 = .ok (.aload_n 1, 1) := by decide +kernel
theorem dX4_foldKept_56 : decode cX4_foldKept 56 = .ok (.iload 4, 2) := by decide +kernel
theorem dX4_foldKept_58 : decode cX4_foldKept 58 = .ok (.aload_n 1, 1) := by decide +kernel
theorem dX4_foldKept_59 : decode cX4_foldKept 59 = .ok (.iload 4, 2) := by decide +kernel
theorem dX4_foldKept_61 : decode cX4_foldKept 61 = .ok (.iaload, 1) := by decide +kernel
theorem dX4_foldKept_62 : decode cX4_foldKept 62 = .ok (.aload_n 0, 1) := by decide +kernel
theorem dX4_foldKept_63 : decode cX4_foldKept 63 = .ok (.getfield 27, 3) := by decide +kernel
theorem dX4_foldKept_66 : decode cX4_foldKept 66 = .ok (.iload_n 2, 1) := by decide +kernel
theorem dX4_foldKept_67 : decode cX4_foldKept 67 = .ok (.iaload, 1) := by decide +kernel
theorem dX4_foldKept_68 : decode cX4_foldKept 68 = .ok (.aload_n 0, 1) := by decide +kernel
theorem dX4_foldKept_69 : decode cX4_foldKept 69 = .ok (.getfield 30, 3) := by decide +kernel
theorem dX4_foldKept_72 : decode cX4_foldKept 72 = .ok (.iload_n 3, 1) := by decide +kernel
theorem dX4_foldKept_73 : decode cX4_foldKept 73 = .ok (.iaload, 1) := by decide +kernel
theorem dX4_foldKept_74 : decode cX4_foldKept 74 = .ok (.imul, 1) := by decide +kernel
theorem dX4_foldKept_75 : decode cX4_foldKept 75 = .ok (.iadd, 1) := by decide +kernel
theorem dX4_foldKept_76 : decode cX4_foldKept 76 = .ok (.iastore, 1) := by decide +kernel
theorem dX4_foldKept_77 : decode cX4_foldKept 77 = .ok (.iinc 3 1, 3) := by decide +kernel
theorem dX4_foldKept_80 : decode cX4_foldKept 80 = .ok (.goto (-43), 3) := by decide +kernel
theorem dX4_foldKept_83 : decode cX4_foldKept 83 = .ok (.iinc 2 1, 3) := by decide +kernel
theorem dX4_foldKept_86 : decode cX4_foldKept 86 = .ok (.goto (-59), 3) := by decide +kernel
theorem dX4_foldKept_89 : decode cX4_foldKept 89 = .ok (.iconst 0, 1) := by decide +kernel
theorem dX4_foldKept_90 : decode cX4_foldKept 90 = .ok (.istore_n 2, 1) := by decide +kernel
theorem dX4_foldKept_91 : decode cX4_foldKept 91 = .ok (.iload_n 2, 1) := by decide +kernel
theorem dX4_foldKept_92 : decode cX4_foldKept 92 = .ok (.aload_n 0, 1) := by decide +kernel
theorem dX4_foldKept_93 : decode cX4_foldKept 93 = .ok (.getfield 7, 3) := by decide +kernel
theorem dX4_foldKept_96 : decode cX4_foldKept 96 = .ok (.if_icmp .ge 18, 3) := by decide +kernel
theorem dX4_foldKept_99 : decode cX4_foldKept 99 = .ok (.aload_n 0, 1) := by decide +kernel
theorem dX4_foldKept_100 : decode cX4_foldKept 100 = .ok (.getfield 27, 3) := by decide +kernel
theorem dX4_foldKept_103 : decode cX4_foldKept 103 = .ok (.iload_n 2, 1) := by decide +kernel
theorem dX4_foldKept_104 : decode cX4_foldKept 104 = .ok (.aload_n 1, 1) := by decide +kernel
theorem dX4_foldKept_105 : decode cX4_foldKept 105 = .ok (.iload_n 2, 1) := by decide +kernel
theorem dX4_foldKept_106 : decode cX4_foldKept 106 = .ok (.iaload, 1) := by decide +kernel
theorem dX4_foldKept_107 : decode cX4_foldKept 107 = .ok (.iastore, 1) := by decide +kernel
theorem dX4_foldKept_108 : decode cX4_foldKept 108 = .ok (.iinc 2 1, 3) := by decide +kernel
theorem dX4_foldKept_111 : decode cX4_foldKept 111 = .ok (.goto (-20), 3) := by decide +kernel
theorem dX4_foldKept_114 : decode cX4_foldKept 114 = .ok (.return_, 1) := by decide +kernel
set_option maxRecDepth 20000 in
theorem ggX4_power_X4_foldKept : GoodIn wsX4_power wsX4_foldKept := goodIn_r _ [10, 11, 2, 3, 5, 12, 13, 14, 15, 16, 17, 18, 19, 20, 21] (by decide +kernel) (by decide +kernel)
set_option maxRecDepth 20000 in
theorem gX4_power_X4_foldKept : GoodIn wsX4_power (wsV RX4 54 RX4 yX4_foldKept wsX4_foldKept) := goodIn_app (goodIn_of _ (by decide +kernel)) ggX4_power_X4_foldKept
theorem dX4_power_0 : decode cX4_power 0 = .ok (.aload_n 0, 1) := by decide +kernel
theorem dX4_power_1 : decode cX4_power 1 = .ok (.iload_n 1, 1) := by decide +kernel
theorem dX4_power_2 : decode cX4_power 2 = .ok (.iconst 1, 1) := by decide +kernel
theorem dX4_power_3 : decode cX4_power 3 = .ok (.if_icmp .lt 10, 3) := by decide +kernel
theorem dX4_power_6 : decode cX4_power 6 = .ok (.iload_n 1, 1) := by decide +kernel
theorem dX4_power_7 : decode cX4_power 7 = .ok (.sipush 1000, 3) := by decide +kernel
theorem dX4_power_10 : decode cX4_power 10 = .ok (.if_icmp .le 7, 3) := by decide +kernel
theorem dX4_power_13 : decode cX4_power 13 = .ok (.iconst 1, 1) := by decide +kernel
theorem dX4_power_14 : decode cX4_power 14 = .ok (.goto 4, 3) := by decide +kernel
theorem dX4_power_17 : decode cX4_power 17 = .ok (.iconst 0, 1) := by decide +kernel
theorem dX4_power_18 : decode cX4_power 18 = .ok (.putfield 36, 3) := by decide +kernel
theorem dX4_power_21 : decode cX4_power 21 = .ok (.aload_n 0, 1) := by decide +kernel
theorem dX4_power_22 : decode cX4_power 22 = .ok (.getfield 36, 3) := by decide +kernel
theorem dX4_power_25 : decode cX4_power 25 = .ok (.ifCond .le 5, 3) := by decide +kernel
theorem dX4_power_28 : decode cX4_power 28 = .ok (.iconst 0, 1) := by decide +kernel
theorem dX4_power_29 : decode cX4_power 29 = .ok (.ireturn, 1) := by decide +kernel
theorem dX4_power_30 : decode cX4_power 30 = .ok (.iconst 0, 1) := by decide +kernel
theorem dX4_power_31 : decode cX4_power 31 = .ok (.istore_n 2, 1) := by decide +kernel
theorem dX4_power_32 : decode cX4_power 32 = .ok (.iload_n 2, 1) := by decide +kernel
theorem dX4_power_33 : decode cX4_power 33 = .ok (.aload_n 0, 1) := by decide +kernel
theorem dX4_power_34 : decode cX4_power 34 = .ok (.getfield 7, 3) := by decide +kernel
theorem dX4_power_37 : decode cX4_power 37 = .ok (.if_icmp .ge 21, 3) := by decide +kernel
theorem dX4_power_40 : decode cX4_power 40 = .ok (.aload_n 0, 1) := by decide +kernel
theorem dX4_power_41 : decode cX4_power 41 = .ok (.getfield 27, 3) := by decide +kernel
theorem dX4_power_44 : decode cX4_power 44 = .ok (.iload_n 2, 1) := by decide +kernel
theorem dX4_power_45 : decode cX4_power 45 = .ok (.aload_n 0, 1) := by decide +kernel
theorem dX4_power_46 : decode cX4_power 46 = .ok (.getfield 13, 3) := by decide +kernel
theorem dX4_power_49 : decode cX4_power 49 = .ok (.iload_n 2, 1) := by decide +kernel
theorem dX4_power_50 : decode cX4_power 50 = .ok (.iaload, 1) := by decide +kernel
theorem dX4_power_51 : decode cX4_power 51 = .ok (.iastore, 1) := by decide +kernel
theorem dX4_power_52 : decode cX4_power 52 = .ok (.iinc 2 1, 3) := by decide +kernel
theorem dX4_power_55 : decode cX4_power 55 = .ok (.goto (-23), 3) := by decide +kernel
theorem dX4_power_58 : decode cX4_power 58 = .ok (.bipush 9, 2) := by decide +kernel
theorem dX4_power_60 : decode cX4_power 60 = .ok (.istore_n 2, 1) := by decide +kernel
theorem dX4_power_61 : decode cX4_power 61 = .ok (.iload_n 1, 1) := by decide +kernel
theorem dX4_power_62 : decode cX4_power 62 = .ok (.iload_n 2, 1) := by decide +kernel
theorem dX4_power_63 : decode cX4_power 63 = .ok (.ishr, 1) := by decide +kernel
theorem dX4_power_64 : decode cX4_power 64 = .ok (.iconst 1, 1) := by decide +kernel
theorem dX4_power_65 : decode cX4_power 65 = .ok (.iand, 1) := by decide +kernel
theorem dX4_power_66 : decode cX4_power 66 = .ok (.ifCond .ne 9, 3) := by decide +kernel
theorem dX4_power_69 : decode cX4_power 69 = .ok (.iinc 2 (-1), 3) := by decide +kernel
theorem dX4_power_72 : decode cX4_power 72 = .ok (.goto (-11), 3) := by decide +kernel
theorem dX4_power_75 : decode cX4_power 75 = .ok (.iload_n 2, 1) := by decide +kernel
theorem dX4_power_76 : decode cX4_power 76 = .ok (.iconst 1, 1) := by decide +kernel
theorem dX4_power_77 : decode cX4_power 77 = .ok (.isub, 1) := by decide +kernel
theorem dX4_power_78 : decode cX4_power 78 = .ok (.istore_n 3, 1) := by decide +kernel
theorem dX4_power_79 : decode cX4_power 79 = .ok (.iload_n 3, 1) := by decide +kernel
theorem dX4_power_80 : decode cX4_power 80 = .ok (.ifCond .lt 90, 3) := by decide +kernel
theorem dX4_power_83 : decode cX4_power 83 = .ok (.iconst 0, 1) := by decide +kernel
theorem dX4_power_84 : decode cX4_power 84 = .ok (.istore 4, 2) := by decide +kernel
theorem dX4_power_86 : decode cX4_power 86 = .ok (.iload 4, 2) := by decide +kernel
theorem dX4_power_88 : decode cX4_power 88 = .ok (.aload_n 0, 1) := by decide +kernel
theorem dX4_power_89 : decode cX4_power 89 = .ok (.getfield 7, 3) := by decide +kernel
theorem dX4_power_92 : decode cX4_power 92 = .ok (.if_icmp .ge 23, 3) := by decide +kernel
theorem dX4_power_95 : decode cX4_power 95 = .ok (.aload_n 0, 1) := by decide +kernel
theorem dX4_power_96 : decode cX4_power 96 = .ok (.getfield 30, 3) := by decide +kernel
theorem dX4_power_99 : decode cX4_power 99 = .ok (.iload 4, 2) := by decide +kernel
theorem dX4_power_101 : decode cX4_power 101 = .ok (.aload_n 0, 1) := by decide +kernel
theorem dX4_power_102 : decode cX4_power 102 = .ok (.getfield 27, 3) := by decide +kernel
theorem dX4_power_105 : decode cX4_power 105 = .ok (.iload 4, 2) := by decide +kernel
theorem dX4_power_107 : decode cX4_power 107 = .ok (.iaload, 1) := by decide +kernel
theorem dX4_power_108 : decode cX4_power 108 = .ok (.iastore, 1) := by decide +kernel
theorem dX4_power_109 : decode cX4_power 109 = .ok (.iinc 4 1, 3) := by decide +kernel
theorem dX4_power_112 : decode cX4_power 112 = .ok (.goto (-26), 3) := by decide +kernel
theorem dX4_power_115 : decode cX4_power 115 = .ok (.aload_n 0, 1) := by decide +kernel
theorem dX4_power_116 : decode cX4_power 116 = .ok (.invokevirtual 54, 3) := by decide +kernel
theorem dX4_power_119 : decode cX4_power 119 = .ok (.iload_n 1, 1) := by decide +kernel
theorem dX4_power_120 : decode cX4_power 120 = .ok (.iload_n 3, 1) := by decide +kernel
theorem dX4_power_121 : decode cX4_power 121 = .ok (.ishr, 1) := by decide +kernel
theorem dX4_power_122 : decode cX4_power 122 = .ok (.iconst 1, 1) := by decide +kernel
theorem dX4_power_123 : decode cX4_power 123 = .ok (.iand, 1) := by decide +kernel
theorem dX4_power_124 : decode cX4_power 124 = .ok (.iconst 1, 1) := by decide +kernel
theorem dX4_power_125 : decode cX4_power 125 = .ok (.if_icmp .ne 39, 3) := by decide +kernel
theorem dX4_power_128 : decode cX4_power 128 = .ok (.iconst 0, 1) := by decide +kernel
theorem dX4_power_129 : decode cX4_power 129 = .ok (.istore 4, 2) := by decide +kernel
theorem dX4_power_131 : decode cX4_power 131 = .ok (.iload 4, 2) := by decide +kernel
theorem dX4_power_133 : decode cX4_power 133 = .ok (.aload_n 0, 1) := by decide +kernel
theorem dX4_power_134 : decode cX4_power 134 = .ok (.getfield 7, 3) := by decide +kernel
theorem dX4_power_137 : decode cX4_power 137 = .ok (.if_icmp .ge 23, 3) := by decide +kernel
theorem dX4_power_140 : decode cX4_power 140 = .ok (.aload_n 0, 1) := by decide +kernel
theorem dX4_power_141 : decode cX4_power 141 = .ok (.getfield 30, 3) := by decide +kernel
theorem dX4_power_144 : decode cX4_power 144 = .ok (.iload 4, 2) := by decide +kernel
theorem dX4_power_146 : decode cX4_power 146 = .ok (.aload_n 0, 1) := by decide +kernel
theorem dX4_power_147 : decode cX4_power 147 = .ok (.getfield 13, 3) := by decide +kernel
theorem dX4_power_150 : decode cX4_power 150 = .ok (.iload 4, 2) := by decide +kernel
theorem dX4_power_152 : decode cX4_power 152 = .ok (.iaload, 1) := by decide +kernel
theorem dX4_power_153 : decode cX4_power 153 = .ok (.iastore, 1) := by decide +kernel
theorem dX4_power_154 : decode cX4_power 154 = .ok (.iinc 4 1, 3) := by decide +kernel
theorem dX4_power_157 : decode cX4_power 157 = .ok (.goto (-26), 3) := by decide +kernel
theorem dX4_power_160 : decode cX4_power 160 = .ok (.aload_n 0, 1) := by decide +kernel
theorem dX4_power_161 : decode cX4_power 161 = .ok (.invokevirtual 54, 3) := by decide +kernel
theorem dX4_power_164 : decode cX4_power 164 = .ok (.iinc 3 (-1), 3) := by decide +kernel
theorem dX4_power_167 : decode cX4_power 167 = .ok (.goto (-88), 3) := by decide +kernel
theorem dX4_power_170 : decode cX4_power 170 = .ok (.iconst 0, 1) := by decide +kernel
theorem dX4_power_171 : decode cX4_power 171 = .ok (.istore_n 3, 1) := by decide +kernel
theorem dX4_power_172 : decode cX4_power 172 = .ok (.iload_n 3, 1) := by decide +kernel
theorem dX4_power_173 : decode cX4_power 173 = .ok (.aload_n 0, 1) := by decide +kernel
theorem dX4_power_174 : decode cX4_power 174 = .ok (.getfield 7, 3) := by decide +kernel
theorem dX4_power_177 : decode cX4_power 177 = .ok (.if_icmp .ge 21, 3) := by decide +kernel
theorem dX4_power_180 : decode cX4_power 180 = .ok (.aload_n 0, 1) := by decide +kernel
theorem dX4_power_181 : decode cX4_power 181 = .ok (.getfield 13, 3) := by decide +kernel
theorem dX4_power_184 : decode cX4_power 184 = .ok (.iload_n 3, 1) := by decide +kernel
theorem dX4_power_185 : decode cX4_power 185 = .ok (.aload_n 0, 1) := by decide +kernel
theorem dX4_power_186 : decode cX4_power 186 = .ok (.getfield 27, 3) := by decide +kernel
theorem dX4_power_189 : decode cX4_power 189 = .ok (.iload_n 3, 1) := by decide +kernel
theorem dX4_power_190 : decode cX4_power 190 = .ok (.iaload, 1) := by decide +kernel
theorem dX4_power_191 : decode cX4_power 191 = .ok (.iastore, 1) := by decide +kernel
theorem dX4_power_192 : decode cX4_power 192 = .ok (.iinc 3 1, 3) := by decide +kernel
theorem dX4_power_195 : decode cX4_power 195 = .ok (.goto (-23), 3) := by decide +kernel
theorem dX4_power_198 : decode cX4_power 198 = .ok (.aload_n 0, 1) := by decide +kernel
theorem dX4_power_199 : decode cX4_power 199 = .ok (.getfield 13, 3) := by decide +kernel
theorem dX4_power_202 : decode cX4_power 202 = .ok (.iconst 0, 1) := by decide +kernel
theorem dX4_power_203 : decode cX4_power 203 = .ok (.iaload, 1) := by decide +kernel
theorem dX4_power_204 : decode cX4_power 204 = .ok (.ireturn, 1) := by decide +kernel
theorem dX4_noResult_0 : decode cX4_noResult 0 = .ok (.iload_n 1, 1) := by decide +kernel
theorem dX4_noResult_1 : decode cX4_noResult 1 = .ok (.ifCond .lt 11, 3) := by decide +kernel
theorem dX4_noResult_4 : decode cX4_noResult 4 = .ok (.iload_n 1, 1) := by decide +kernel
theorem dX4_noResult_5 : decode cX4_noResult 5 = .ok (.aload_n 0, 1) := by decide +kernel
theorem dX4_noResult_6 : decode cX4_noResult 6 = .ok (.getfield 39, 3) := by decide +kernel
theorem dX4_noResult_9 : decode cX4_noResult 9 = .ok (.if_icmp .lt 7, 3) := by decide +kernel
theorem dX4_noResult_12 : decode cX4_noResult 12 = .ok (.iconst 1, 1) := by decide +kernel
theorem dX4_noResult_13 : decode cX4_noResult 13 = .ok (.goto 4, 3) := by decide +kernel
theorem dX4_noResult_16 : decode cX4_noResult 16 = .ok (.iconst 0, 1) := by decide +kernel
theorem dX4_noResult_17 : decode cX4_noResult 17 = .ok (.ireturn, 1) := by decide +kernel
set_option maxRecDepth 20000 in
theorem ggX4_low_X4_noResult : GoodIn wsX4_low wsX4_noResult := goodIn_r _ [7, 8, 9, 10, 11, 12, 13, 14, 15, 16, 17, 18] (by decide +kernel) (by decide +kernel)
set_option maxRecDepth 20000 in
theorem gX4_low_X4_noResult : GoodIn wsX4_low (wsV RX4 57 RX4 yX4_noResult wsX4_noResult) := goodIn_app (goodIn_of _ (by decide +kernel)) ggX4_low_X4_noResult
theorem dX4_low_0 : decode cX4_low 0 = .ok (.aload_n 0, 1) := by decide +kernel
theorem dX4_low_1 : decode cX4_low 1 = .ok (.aload_n 0, 1) := by decide +kernel
theorem dX4_low_2 : decode cX4_low 2 = .ok (.iload_n 1, 1) := by decide +kernel
theorem dX4_low_3 : decode cX4_low 3 = .ok (.invokevirtual 57, 3) := by decide +kernel
theorem dX4_low_6 : decode cX4_low 6 = .ok (.ifCond .eq 7, 3) := by decide +kernel
theorem dX4_low_9 : decode cX4_low 9 = .ok (.iconst 1, 1) := by decide +kernel
theorem dX4_low_10 : decode cX4_low 10 = .ok (.goto 4, 3) := by decide +kernel
theorem dX4_low_13 : decode cX4_low 13 = .ok (.iconst 0, 1) := by decide +kernel
theorem dX4_low_14 : decode cX4_low 14 = .ok (.putfield 36, 3) := by decide +kernel
theorem dX4_low_17 : decode cX4_low 17 = .ok (.aload_n 0, 1) := by decide +kernel
theorem dX4_low_18 : decode cX4_low 18 = .ok (.getfield 36, 3) := by decide +kernel
theorem dX4_low_21 : decode cX4_low 21 = .ok (.ifCond .le 7, 3) := by decide +kernel
theorem dX4_low_24 : decode cX4_low 24 = .ok (.lconst 0, 1) := by decide +kernel
theorem dX4_low_25 : decode cX4_low 25 = .ok (.goto 9, 3) := by decide +kernel
theorem dX4_low_28 : decode cX4_low 28 = .ok (.aload_n 0, 1) := by decide +kernel
theorem dX4_low_29 : decode cX4_low 29 = .ok (.getfield 20, 3) := by decide +kernel
theorem dX4_low_32 : decode cX4_low 32 = .ok (.iload_n 1, 1) := by decide +kernel
theorem dX4_low_33 : decode cX4_low 33 = .ok (.laload, 1) := by decide +kernel
theorem dX4_low_34 : decode cX4_low 34 = .ok (.lreturn, 1) := by decide +kernel
set_option maxRecDepth 20000 in
theorem ggX4_high_X4_noResult : GoodIn wsX4_high wsX4_noResult := goodIn_r _ [7, 8, 9, 10, 11, 12, 13, 14, 15, 16, 17, 18] (by decide +kernel) (by decide +kernel)
set_option maxRecDepth 20000 in
theorem gX4_high_X4_noResult : GoodIn wsX4_high (wsV RX4 57 RX4 yX4_noResult wsX4_noResult) := goodIn_app (goodIn_of _ (by decide +kernel)) ggX4_high_X4_noResult
theorem dX4_high_0 : decode cX4_high 0 = .ok (.aload_n 0, 1) := by decide +kernel
theorem dX4_high_1 : decode cX4_high 1 = .ok (.aload_n 0, 1) := by decide +kernel
theorem dX4_high_2 : decode cX4_high 2 = .ok (.iload_n 1, 1) := by decide +kernel
theorem dX4_high_3 : decode cX4_high 3 = .ok (.invokevirtual 57, 3) := by decide +kernel
theorem dX4_high_6 : decode cX4_high 6 = .ok (.ifCond .eq 7, 3) := by decide +kernel
theorem dX4_high_9 : decode cX4_high 9 = .ok (.iconst 1, 1) := by decide +kernel
theorem dX4_high_10 : decode cX4_high 10 = .ok (.goto 4, 3) := by decide +kernel
theorem dX4_high_13 : decode cX4_high 13 = .ok (.iconst 0, 1) := by decide +kernel
theorem dX4_high_14 : decode cX4_high 14 = .ok (.putfield 36, 3) := by decide +kernel
theorem dX4_high_17 : decode cX4_high 17 = .ok (.aload_n 0, 1) := by decide +kernel
theorem dX4_high_18 : decode cX4_high 18 = .ok (.getfield 36, 3) := by decide +kernel
theorem dX4_high_21 : decode cX4_high 21 = .ok (.ifCond .le 7, 3) := by decide +kernel
theorem dX4_high_24 : decode cX4_high 24 = .ok (.iconst 0, 1) := by decide +kernel
theorem dX4_high_25 : decode cX4_high 25 = .ok (.goto 10, 3) := by decide +kernel
theorem dX4_high_28 : decode cX4_high 28 = .ok (.aload_n 0, 1) := by decide +kernel
theorem dX4_high_29 : decode cX4_high 29 = .ok (.getfield 24, 3) := by decide +kernel
theorem dX4_high_32 : decode cX4_high 32 = .ok (.iload_n 1, 1) := by decide +kernel
theorem dX4_high_33 : decode cX4_high 33 = .ok (.laload, 1) := by decide +kernel
theorem dX4_high_34 : decode cX4_high 34 = .ok (.l2i, 1) := by decide +kernel
theorem dX4_high_35 : decode cX4_high 35 = .ok (.ireturn, 1) := by decide +kernel
theorem dX4_prime_0 : decode cX4_prime 0 = .ok (.iload_n 0, 1) := by decide +kernel
theorem dX4_prime_1 : decode cX4_prime 1 = .ok (.ifCond .ne 9, 3) := by decide +kernel
theorem dX4_prime_4 : decode cX4_prime 4 = .ok (.ldc2_w 60, 3) := by decide +kernel
theorem dX4_prime_7 : decode cX4_prime 7 = .ok (.goto 17, 3) := by decide +kernel
theorem dX4_prime_10 : decode cX4_prime 10 = .ok (.iload_n 0, 1) := by decide +kernel
theorem dX4_prime_11 : decode cX4_prime 11 = .ok (.iconst 1, 1) := by decide +kernel
theorem dX4_prime_12 : decode cX4_prime 12 = .ok (.if_icmp .ne 9, 3) := by decide +kernel
theorem dX4_prime_15 : decode cX4_prime 15 = .ok (.ldc2_w 62, 3) := by decide +kernel
theorem dX4_prime_18 : decode cX4_prime 18 = .ok (.goto 6, 3) := by decide +kernel
theorem dX4_prime_21 : decode cX4_prime 21 = .ok (.ldc2_w 64, 3) := by decide +kernel
theorem dX4_prime_24 : decode cX4_prime 24 = .ok (.lreturn, 1) := by decide +kernel
theorem dX4_noPrime_0 : decode cX4_noPrime 0 = .ok (.iload_n 0, 1) := by decide +kernel
theorem dX4_noPrime_1 : decode cX4_noPrime 1 = .ok (.ifCond .lt 8, 3) := by decide +kernel
theorem dX4_noPrime_4 : decode cX4_noPrime 4 = .ok (.iload_n 0, 1) := by decide +kernel
theorem dX4_noPrime_5 : decode cX4_noPrime 5 = .ok (.iconst 2, 1) := by decide +kernel
theorem dX4_noPrime_6 : decode cX4_noPrime 6 = .ok (.if_icmp .le 7, 3) := by decide +kernel
theorem dX4_noPrime_9 : decode cX4_noPrime 9 = .ok (.iconst 1, 1) := by decide +kernel
theorem dX4_noPrime_10 : decode cX4_noPrime 10 = .ok (.goto 4, 3) := by decide +kernel
theorem dX4_noPrime_13 : decode cX4_noPrime 13 = .ok (.iconst 0, 1) := by decide +kernel
theorem dX4_noPrime_14 : decode cX4_noPrime 14 = .ok (.ireturn, 1) := by decide +kernel
theorem dX4_restOf_0 : decode cX4_restOf 0 = .ok (.lload_n 0, 1) := by decide +kernel
theorem dX4_restOf_1 : decode cX4_restOf 1 = .ok (.lload_n 2, 1) := by decide +kernel
theorem dX4_restOf_2 : decode cX4_restOf 2 = .ok (.lrem, 1) := by decide +kernel
theorem dX4_restOf_3 : decode cX4_restOf 3 = .ok (.lstore 4, 2) := by decide +kernel
theorem dX4_restOf_5 : decode cX4_restOf 5 = .ok (.lload 4, 2) := by decide +kernel
theorem dX4_restOf_7 : decode cX4_restOf 7 = .ok (.lconst 0, 1) := by decide +kernel
theorem dX4_restOf_8 : decode cX4_restOf 8 = .ok (.lcmp, 1) := by decide +kernel
theorem dX4_restOf_9 : decode cX4_restOf 9 = .ok (.ifCond .ge 10, 3) := by decide +kernel
theorem dX4_restOf_12 : decode cX4_restOf 12 = .ok (.lload 4, 2) := by decide +kernel
theorem dX4_restOf_14 : decode cX4_restOf 14 = .ok (.lload_n 2, 1) := by decide +kernel
theorem dX4_restOf_15 : decode cX4_restOf 15 = .ok (.ladd, 1) := by decide +kernel
theorem dX4_restOf_16 : decode cX4_restOf 16 = .ok (.goto 5, 3) := by decide +kernel
theorem dX4_restOf_19 : decode cX4_restOf 19 = .ok (.lload 4, 2) := by decide +kernel
theorem dX4_restOf_21 : decode cX4_restOf 21 = .ok (.lreturn, 1) := by decide +kernel
set_option maxRecDepth 20000 in
theorem ggX4_rest_X4_noPrime : GoodIn wsX4_rest wsX4_noPrime := goodIn_r _ [8] (by decide +kernel) (by decide +kernel)
set_option maxRecDepth 20000 in
theorem gX4_rest_X4_noPrime : GoodIn wsX4_rest (va_wsS RX4 66 yX4_noPrime wsX4_noPrime) := goodIn_app (goodIn_of _ (by decide +kernel)) ggX4_rest_X4_noPrime
set_option maxRecDepth 20000 in
theorem ggX4_rest_X4_noResult : GoodIn wsX4_rest wsX4_noResult := goodIn_r _ [12, 13, 23, 24, 25, 26, 27, 28, 29, 30, 31, 32] (by decide +kernel) (by decide +kernel)
set_option maxRecDepth 20000 in
theorem gX4_rest_X4_noResult : GoodIn wsX4_rest (wsV RX4 57 RX4 yX4_noResult wsX4_noResult) := goodIn_app (goodIn_of _ (by decide +kernel)) ggX4_rest_X4_noResult
set_option maxRecDepth 20000 in
theorem ggX4_rest_X4_prime : GoodIn wsX4_rest wsX4_prime := goodIn_r _ [16, 17, 18, 19] (by decide +kernel) (by decide +kernel)
set_option maxRecDepth 20000 in
theorem gX4_rest_X4_prime : GoodIn wsX4_rest (va_wsS RX4 69 yX4_prime wsX4_prime) := goodIn_app (goodIn_of _ (by decide +kernel)) ggX4_rest_X4_prime
set_option maxRecDepth 20000 in
theorem ggX4_rest_X4_restOf : GoodIn wsX4_rest wsX4_restOf := goodIn_r _ [22] (by decide +kernel) (by decide +kernel)
set_option maxRecDepth 20000 in
theorem gX4_rest_X4_restOf : GoodIn wsX4_rest (va_wsS RX4 73 yX4_restOf wsX4_restOf) := goodIn_app (goodIn_of _ (by decide +kernel)) ggX4_rest_X4_restOf
theorem dX4_rest_0 : decode cX4_rest 0 = .ok (.aload_n 0, 1) := by decide +kernel
theorem dX4_rest_1 : decode cX4_rest 1 = .ok (.iload_n 1, 1) := by decide +kernel
theorem dX4_rest_2 : decode cX4_rest 2 = .ok (.invokestatic 66, 3) := by decide +kernel
theorem dX4_rest_5 : decode cX4_rest 5 = .ok (.ifCond .eq 7, 3) := by decide +kernel
theorem dX4_rest_8 : decode cX4_rest 8 = .ok (.iconst 1, 1) := by decide +kernel
theorem dX4_rest_9 : decode cX4_rest 9 = .ok (.goto 16, 3) := by decide +kernel
theorem dX4_rest_12 : decode cX4_rest 12 = .ok (.aload_n 0, 1) := by decide +kernel
theorem dX4_rest_13 : decode cX4_rest 13 = .ok (.iload_n 2, 1) := by decide +kernel
theorem dX4_rest_14 : decode cX4_rest 14 = .ok (.invokevirtual 57, 3) := by decide +kernel
theorem dX4_rest_17 : decode cX4_rest 17 = .ok (.ifCond .eq 7, 3) := by decide +kernel
theorem dX4_rest_20 : decode cX4_rest 20 = .ok (.iconst 2, 1) := by decide +kernel
theorem dX4_rest_21 : decode cX4_rest 21 = .ok (.goto 4, 3) := by decide +kernel
theorem dX4_rest_24 : decode cX4_rest 24 = .ok (.iconst 0, 1) := by decide +kernel
theorem dX4_rest_25 : decode cX4_rest 25 = .ok (.putfield 36, 3) := by decide +kernel
theorem dX4_rest_28 : decode cX4_rest 28 = .ok (.aload_n 0, 1) := by decide +kernel
theorem dX4_rest_29 : decode cX4_rest 29 = .ok (.getfield 36, 3) := by decide +kernel
theorem dX4_rest_32 : decode cX4_rest 32 = .ok (.ifCond .le 5, 3) := by decide +kernel
theorem dX4_rest_35 : decode cX4_rest 35 = .ok (.iconst 0, 1) := by decide +kernel
theorem dX4_rest_36 : decode cX4_rest 36 = .ok (.ireturn, 1) := by decide +kernel
theorem dX4_rest_37 : decode cX4_rest 37 = .ok (.iload_n 1, 1) := by decide +kernel
theorem dX4_rest_38 : decode cX4_rest 38 = .ok (.invokestatic 69, 3) := by decide +kernel
theorem dX4_rest_41 : decode cX4_rest 41 = .ok (.lstore_n 3, 1) := by decide +kernel
theorem dX4_rest_42 : decode cX4_rest 42 = .ok (.aload_n 0, 1) := by decide +kernel
theorem dX4_rest_43 : decode cX4_rest 43 = .ok (.getfield 24, 3) := by decide +kernel
theorem dX4_rest_46 : decode cX4_rest 46 = .ok (.iload_n 2, 1) := by decide +kernel
theorem dX4_rest_47 : decode cX4_rest 47 = .ok (.laload, 1) := by decide +kernel
theorem dX4_rest_48 : decode cX4_rest 48 = .ok (.lload_n 3, 1) := by decide +kernel
theorem dX4_rest_49 : decode cX4_rest 49 = .ok (.invokestatic 73, 3) := by decide +kernel
theorem dX4_rest_52 : decode cX4_rest 52 = .ok (.lstore 5, 2) := by decide +kernel
theorem dX4_rest_54 : decode cX4_rest 54 = .ok (.bipush 63, 2) := by decide +kernel
theorem dX4_rest_56 : decode cX4_rest 56 = .ok (.istore 7, 2) := by decide +kernel
theorem dX4_rest_58 : decode cX4_rest 58 = .ok (.iload 7, 2) := by decide +kernel
theorem dX4_rest_60 : decode cX4_rest 60 = .ok (.ifCond .lt 31, 3) := by decide +kernel
theorem dX4_rest_63 : decode cX4_rest 63 = .ok (.ldc2_w 77, 3) := by decide +kernel
theorem dX4_rest_66 : decode cX4_rest 66 = .ok (.lload 5, 2) := by decide +kernel
theorem dX4_rest_68 : decode cX4_rest 68 = .ok (.lmul, 1) := by decide +kernel
theorem dX4_rest_69 : decode cX4_rest 69 = .ok (.aload_n 0, 1) := by decide +kernel
theorem dX4_rest_70 : decode cX4_rest 70 = .ok (.getfield 20, 3) := by decide +kernel
theorem dX4_rest_73 : decode cX4_rest 73 = .ok (.iload_n 2, 1) := by decide +kernel
theorem dX4_rest_74 : decode cX4_rest 74 = .ok (.laload, 1) := by decide +kernel
theorem dX4_rest_75 : decode cX4_rest 75 = .ok (.iload 7, 2) := by decide +kernel
theorem dX4_rest_77 : decode cX4_rest 77 = .ok (.lushr, 1) := by decide +kernel
theorem dX4_rest_78 : decode cX4_rest 78 = .ok (.lconst 1, 1) := by decide +kernel
theorem dX4_rest_79 : decode cX4_rest 79 = .ok (.land, 1) := by decide +kernel
theorem dX4_rest_80 : decode cX4_rest 80 = .ok (.ladd, 1) := by decide +kernel
theorem dX4_rest_81 : decode cX4_rest 81 = .ok (.lload_n 3, 1) := by decide +kernel
theorem dX4_rest_82 : decode cX4_rest 82 = .ok (.lrem, 1) := by decide +kernel
theorem dX4_rest_83 : decode cX4_rest 83 = .ok (.lstore 5, 2) := by decide +kernel
theorem dX4_rest_85 : decode cX4_rest 85 = .ok (.iinc 7 (-1), 3) := by decide +kernel
theorem dX4_rest_88 : decode cX4_rest 88 = .ok (.goto (-30), 3) := by decide +kernel
theorem dX4_rest_91 : decode cX4_rest 91 = .ok (.lload 5, 2) := by decide +kernel
theorem dX4_rest_93 : decode cX4_rest 93 = .ok (.l2i, 1) := by decide +kernel
theorem dX4_rest_94 : decode cX4_rest 94 = .ok (.ireturn, 1) := by decide +kernel
theorem dX4_raised_0 : decode cX4_raised 0 = .ok (.lconst 1, 1) := by decide +kernel
theorem dX4_raised_1 : decode cX4_raised 1 = .ok (.lstore 6, 2) := by decide +kernel
theorem dX4_raised_3 : decode cX4_raised 3 = .ok (.lload_n 0, 1) := by decide +kernel
theorem dX4_raised_4 : decode cX4_raised 4 = .ok (.lstore 8, 2) := by decide +kernel
theorem dX4_raised_6 : decode cX4_raised 6 = .ok (.lload_n 2, 1) := by decide +kernel
theorem dX4_raised_7 : decode cX4_raised 7 = .ok (.lstore 10, 2) := by decide +kernel
theorem dX4_raised_9 : decode cX4_raised 9 = .ok (.lload 10, 2) := by decide +kernel
theorem dX4_raised_11 : decode cX4_raised 11 = .ok (.lconst 0, 1) := by decide +kernel
theorem dX4_raised_12 : decode cX4_raised 12 = .ok (.lcmp, 1) := by decide +kernel
theorem dX4_raised_13 : decode cX4_raised 13 = .ok (.ifCond .le 50, 3) := by decide +kernel
theorem dX4_raised_16 : decode cX4_raised 16 = .ok (.lload 10, 2) := by decide +kernel
theorem dX4_raised_18 : decode cX4_raised 18 = .ok (.ldc2_w 77, 3) := by decide +kernel
theorem dX4_raised_21 : decode cX4_raised 21 = .ok (.lrem, 1) := by decide +kernel
theorem dX4_raised_22 : decode cX4_raised 22 = .ok (.lconst 1, 1) := by decide +kernel
theorem dX4_raised_23 : decode cX4_raised 23 = .ok (.lcmp, 1) := by decide +kernel
theorem dX4_raised_24 : decode cX4_raised 24 = .ok (.ifCond .ne 14, 3) := by decide +kernel
theorem dX4_raised_27 : decode cX4_raised 27 = .ok (.lload 6, 2) := by decide +kernel
theorem dX4_raised_29 : decode cX4_raised 29 = .ok (.lload 8, 2) := by decide +kernel
theorem dX4_raised_31 : decode cX4_raised 31 = .ok (.lmul, 1) := by decide +kernel
theorem dX4_raised_32 : decode cX4_raised 32 = .ok (.lload 4, 2) := by decide +kernel
theorem dX4_raised_34 : decode cX4_raised 34 = .ok (.lrem, 1) := by decide +kernel
theorem dX4_raised_35 : decode cX4_raised 35 = .ok (.goto 5, 3) := by decide +kernel
theorem dX4_raised_38 : decode cX4_raised 38 = .ok (.lload 6, 2) := by decide +kernel
theorem dX4_raised_40 : decode cX4_raised 40 = .ok (.lstore 6, 2) := by decide +kernel
theorem dX4_raised_42 : decode cX4_raised 42 = .ok (.lload 8, 2) := by decide +kernel
theorem dX4_raised_44 : decode cX4_raised 44 = .ok (.lload 8, 2) := by decide +kernel
theorem dX4_raised_46 : decode cX4_raised 46 = .ok (.lmul, 1) := by decide +kernel
theorem dX4_raised_47 : decode cX4_raised 47 = .ok (.lload 4, 2) := by decide +kernel
theorem dX4_raised_49 : decode cX4_raised 49 = .ok (.lrem, 1) := by decide +kernel
theorem dX4_raised_50 : decode cX4_raised 50 = .ok (.lstore 8, 2) := by decide +kernel
theorem dX4_raised_52 : decode cX4_raised 52 = .ok (.lload 10, 2) := by decide +kernel
theorem dX4_raised_54 : decode cX4_raised 54 = .ok (.ldc2_w 77, 3) := by decide +kernel
theorem dX4_raised_57 : decode cX4_raised 57 = .ok (.ldiv, 1) := by decide +kernel
theorem dX4_raised_58 : decode cX4_raised 58 = .ok (.lstore 10, 2) := by decide +kernel
theorem dX4_raised_60 : decode cX4_raised 60 = .ok (.goto (-51), 3) := by decide +kernel
theorem dX4_raised_63 : decode cX4_raised 63 = .ok (.lload 6, 2) := by decide +kernel
theorem dX4_raised_65 : decode cX4_raised 65 = .ok (.lreturn, 1) := by decide +kernel
set_option maxRecDepth 20000 in
theorem ggX4_rootOf_X4_prime : GoodIn wsX4_rootOf wsX4_prime := goodIn_r _ [6, 7, 8, 9] (by decide +kernel) (by decide +kernel)
set_option maxRecDepth 20000 in
theorem gX4_rootOf_X4_prime : GoodIn wsX4_rootOf (va_wsS RX4 69 yX4_prime wsX4_prime) := goodIn_app (goodIn_of _ (by decide +kernel)) ggX4_rootOf_X4_prime
set_option maxRecDepth 20000 in
theorem ggX4_rootOf_X4_raised : GoodIn wsX4_rootOf wsX4_raised := goodIn_r _ [12, 13] (by decide +kernel) (by decide +kernel)
set_option maxRecDepth 20000 in
theorem gX4_rootOf_X4_raised : GoodIn wsX4_rootOf (va_wsS RX4 81 yX4_raised wsX4_raised) := goodIn_app (goodIn_of _ (by decide +kernel)) ggX4_rootOf_X4_raised
theorem dX4_rootOf_0 : decode cX4_rootOf 0 = .ok (.iload_n 1, 1) := by decide +kernel
theorem dX4_rootOf_1 : decode cX4_rootOf 1 = .ok (.invokestatic 69, 3) := by decide +kernel
theorem dX4_rootOf_4 : decode cX4_rootOf 4 = .ok (.lstore_n 2, 1) := by decide +kernel
theorem dX4_rootOf_5 : decode cX4_rootOf 5 = .ok (.ldc2_w 79, 3) := by decide +kernel
theorem dX4_rootOf_8 : decode cX4_rootOf 8 = .ok (.lload_n 2, 1) := by decide +kernel
theorem dX4_rootOf_9 : decode cX4_rootOf 9 = .ok (.lconst 1, 1) := by decide +kernel
theorem dX4_rootOf_10 : decode cX4_rootOf 10 = .ok (.lsub, 1) := by decide +kernel
theorem dX4_rootOf_11 : decode cX4_rootOf 11 = .ok (.aload_n 0, 1) := by decide +kernel
theorem dX4_rootOf_12 : decode cX4_rootOf 12 = .ok (.getfield 7, 3) := by decide +kernel
theorem dX4_rootOf_15 : decode cX4_rootOf 15 = .ok (.i2l, 1) := by decide +kernel
theorem dX4_rootOf_16 : decode cX4_rootOf 16 = .ok (.ldiv, 1) := by decide +kernel
theorem dX4_rootOf_17 : decode cX4_rootOf 17 = .ok (.lload_n 2, 1) := by decide +kernel
theorem dX4_rootOf_18 : decode cX4_rootOf 18 = .ok (.invokestatic 81, 3) := by decide +kernel
theorem dX4_rootOf_21 : decode cX4_rootOf 21 = .ok (.lreturn, 1) := by decide +kernel
set_option maxRecDepth 20000 in
theorem ggX4_sumOf_X4_prime : GoodIn wsX4_sumOf wsX4_prime := goodIn_r _ [6, 7, 8, 9] (by decide +kernel) (by decide +kernel)
set_option maxRecDepth 20000 in
theorem gX4_sumOf_X4_prime : GoodIn wsX4_sumOf (va_wsS RX4 69 yX4_prime wsX4_prime) := goodIn_app (goodIn_of _ (by decide +kernel)) ggX4_sumOf_X4_prime
set_option maxRecDepth 20000 in
theorem ggX4_sumOf_X4_rootOf : GoodIn wsX4_sumOf wsX4_rootOf := goodIn_r _ [13, 14, 1, 3, 4, 5, 6, 7, 8, 9, 15, 16, 17, 18, 22, 23, 24, 25, 26, 27, 28, 29, 30, 31] (by decide +kernel) (by decide +kernel)
set_option maxRecDepth 20000 in
theorem gX4_sumOf_X4_rootOf : GoodIn wsX4_sumOf (wsV RX4 85 RX4 yX4_rootOf wsX4_rootOf) := goodIn_app (goodIn_of _ (by decide +kernel)) ggX4_sumOf_X4_rootOf
set_option maxRecDepth 20000 in
theorem ggX4_sumOf_X4_raised : GoodIn wsX4_sumOf wsX4_raised := goodIn_r _ [17, 18] (by decide +kernel) (by decide +kernel)
set_option maxRecDepth 20000 in
theorem gX4_sumOf_X4_raised : GoodIn wsX4_sumOf (va_wsS RX4 81 yX4_raised wsX4_raised) := goodIn_app (goodIn_of _ (by decide +kernel)) ggX4_sumOf_X4_raised
set_option maxRecDepth 20000 in
theorem ggX4_sumOf_X4_restOf : GoodIn wsX4_sumOf wsX4_restOf := goodIn_r _ [21] (by decide +kernel) (by decide +kernel)
set_option maxRecDepth 20000 in
theorem gX4_sumOf_X4_restOf : GoodIn wsX4_sumOf (va_wsS RX4 73 yX4_restOf wsX4_restOf) := goodIn_app (goodIn_of _ (by decide +kernel)) ggX4_sumOf_X4_restOf
theorem dX4_sumOf_0 : decode cX4_sumOf 0 = .ok (.iload_n 1, 1) := by decide +kernel
theorem dX4_sumOf_1 : decode cX4_sumOf 1 = .ok (.invokestatic 69, 3) := by decide +kernel
theorem dX4_sumOf_4 : decode cX4_sumOf 4 = .ok (.lstore 4, 2) := by decide +kernel
theorem dX4_sumOf_6 : decode cX4_sumOf 6 = .ok (.aload_n 0, 1) := by decide +kernel
theorem dX4_sumOf_7 : decode cX4_sumOf 7 = .ok (.iload_n 1, 1) := by decide +kernel
theorem dX4_sumOf_8 : decode cX4_sumOf 8 = .ok (.invokevirtual 85, 3) := by decide +kernel
theorem dX4_sumOf_11 : decode cX4_sumOf 11 = .ok (.iload_n 3, 1) := by decide +kernel
theorem dX4_sumOf_12 : decode cX4_sumOf 12 = .ok (.ifCond .eq 18, 3) := by decide +kernel
theorem dX4_sumOf_15 : decode cX4_sumOf 15 = .ok (.aload_n 0, 1) := by decide +kernel
theorem dX4_sumOf_16 : decode cX4_sumOf 16 = .ok (.getfield 7, 3) := by decide +kernel
theorem dX4_sumOf_19 : decode cX4_sumOf 19 = .ok (.iload_n 2, 1) := by decide +kernel
theorem dX4_sumOf_20 : decode cX4_sumOf 20 = .ok (.isub, 1) := by decide +kernel
theorem dX4_sumOf_21 : decode cX4_sumOf 21 = .ok (.aload_n 0, 1) := by decide +kernel
theorem dX4_sumOf_22 : decode cX4_sumOf 22 = .ok (.getfield 7, 3) := by decide +kernel
theorem dX4_sumOf_25 : decode cX4_sumOf 25 = .ok (.irem, 1) := by decide +kernel
theorem dX4_sumOf_26 : decode cX4_sumOf 26 = .ok (.i2l, 1) := by decide +kernel
theorem dX4_sumOf_27 : decode cX4_sumOf 27 = .ok (.goto 5, 3) := by decide +kernel
theorem dX4_sumOf_30 : decode cX4_sumOf 30 = .ok (.iload_n 2, 1) := by decide +kernel
theorem dX4_sumOf_31 : decode cX4_sumOf 31 = .ok (.i2l, 1) := by decide +kernel
theorem dX4_sumOf_32 : decode cX4_sumOf 32 = .ok (.lload 4, 2) := by decide +kernel
theorem dX4_sumOf_34 : decode cX4_sumOf 34 = .ok (.invokestatic 81, 3) := by decide +kernel
theorem dX4_sumOf_37 : decode cX4_sumOf 37 = .ok (.lstore 6, 2) := by decide +kernel
theorem dX4_sumOf_39 : decode cX4_sumOf 39 = .ok (.lconst 1, 1) := by decide +kernel
theorem dX4_sumOf_40 : decode cX4_sumOf 40 = .ok (.lstore 8, 2) := by decide +kernel
theorem dX4_sumOf_42 : decode cX4_sumOf 42 = .ok (.lconst 0, 1) := by decide +kernel
theorem dX4_sumOf_43 : decode cX4_sumOf 43 = .ok (.lstore 10, 2) := by decide +kernel
theorem dX4_sumOf_45 : decode cX4_sumOf 45 = .ok (.iconst 0, 1) := by decide +kernel
theorem dX4_sumOf_46 : decode cX4_sumOf 46 = .ok (.istore 12, 2) := by decide +kernel
theorem dX4_sumOf_48 : decode cX4_sumOf 48 = .ok (.iload 12, 2) := by decide +kernel
theorem dX4_sumOf_50 : decode cX4_sumOf 50 = .ok (.aload_n 0, 1) := by decide +kernel
theorem dX4_sumOf_51 : decode cX4_sumOf 51 = .ok (.getfield 7, 3) := by decide +kernel
theorem dX4_sumOf_54 : decode cX4_sumOf 54 = .ok (.if_icmp .ge 43, 3) := by decide +kernel
theorem dX4_sumOf_57 : decode cX4_sumOf 57 = .ok (.lload 10, 2) := by decide +kernel
theorem dX4_sumOf_59 : decode cX4_sumOf 59 = .ok (.aload_n 0, 1) := by decide +kernel
theorem dX4_sumOf_60 : decode cX4_sumOf 60 = .ok (.getfield 13, 3) := by decide +kernel
theorem dX4_sumOf_63 : decode cX4_sumOf 63 = .ok (.iload 12, 2) := by decide +kernel
theorem dX4_sumOf_65 : decode cX4_sumOf 65 = .ok (.iaload, 1) := by decide +kernel
theorem dX4_sumOf_66 : decode cX4_sumOf 66 = .ok (.i2l, 1) := by decide +kernel
theorem dX4_sumOf_67 : decode cX4_sumOf 67 = .ok (.lload 4, 2) := by decide +kernel
theorem dX4_sumOf_69 : decode cX4_sumOf 69 = .ok (.invokestatic 73, 3) := by decide +kernel
theorem dX4_sumOf_72 : decode cX4_sumOf 72 = .ok (.lload 8, 2) := by decide +kernel
theorem dX4_sumOf_74 : decode cX4_sumOf 74 = .ok (.lmul, 1) := by decide +kernel
theorem dX4_sumOf_75 : decode cX4_sumOf 75 = .ok (.ladd, 1) := by decide +kernel
theorem dX4_sumOf_76 : decode cX4_sumOf 76 = .ok (.lload 4, 2) := by decide +kernel
theorem dX4_sumOf_78 : decode cX4_sumOf 78 = .ok (.lrem, 1) := by decide +kernel
theorem dX4_sumOf_79 : decode cX4_sumOf 79 = .ok (.lstore 10, 2) := by decide +kernel
theorem dX4_sumOf_81 : decode cX4_sumOf 81 = .ok (.lload 8, 2) := by decide +kernel
theorem dX4_sumOf_83 : decode cX4_sumOf 83 = .ok (.lload 6, 2) := by decide +kernel
theorem dX4_sumOf_85 : decode cX4_sumOf 85 = .ok (.lmul, 1) := by decide +kernel
theorem dX4_sumOf_86 : decode cX4_sumOf 86 = .ok (.lload 4, 2) := by decide +kernel
theorem dX4_sumOf_88 : decode cX4_sumOf 88 = .ok (.lrem, 1) := by decide +kernel
theorem dX4_sumOf_89 : decode cX4_sumOf 89 = .ok (.lstore 8, 2) := by decide +kernel
theorem dX4_sumOf_91 : decode cX4_sumOf 91 = .ok (.iinc 12 1, 3) := by decide +kernel
theorem dX4_sumOf_94 : decode cX4_sumOf 94 = .ok (.goto (-46), 3) := by decide +kernel
theorem dX4_sumOf_97 : decode cX4_sumOf 97 = .ok (.lload 10, 2) := by decide +kernel
theorem dX4_sumOf_99 : decode cX4_sumOf 99 = .ok (.lreturn, 1) := by decide +kernel
set_option maxRecDepth 20000 in
theorem ggX4_value_X4_noPrime : GoodIn wsX4_value wsX4_noPrime := goodIn_r _ [6] (by decide +kernel) (by decide +kernel)
set_option maxRecDepth 20000 in
theorem gX4_value_X4_noPrime : GoodIn wsX4_value (va_wsS RX4 66 yX4_noPrime wsX4_noPrime) := goodIn_app (goodIn_of _ (by decide +kernel)) ggX4_value_X4_noPrime
set_option maxRecDepth 20000 in
theorem ggX4_value_X4_sumOf : GoodIn wsX4_value wsX4_sumOf := goodIn_r _ [10, 1, 11, 12, 13, 5, 14, 15, 16, 17, 18, 19, 20, 21, 22, 23, 24, 25, 26, 27, 28, 29, 30, 31, 32, 33, 34, 35, 36, 37, 38, 39] (by decide +kernel) (by decide +kernel)
set_option maxRecDepth 20000 in
theorem gX4_value_X4_sumOf : GoodIn wsX4_value (wsV RX4 88 RX4 yX4_sumOf wsX4_sumOf) := goodIn_app (goodIn_of _ (by decide +kernel)) ggX4_value_X4_sumOf
theorem dX4_value_0 : decode cX4_value 0 = .ok (.aload_n 0, 1) := by decide +kernel
theorem dX4_value_1 : decode cX4_value 1 = .ok (.iload_n 1, 1) := by decide +kernel
theorem dX4_value_2 : decode cX4_value 2 = .ok (.invokestatic 66, 3) := by decide +kernel
theorem dX4_value_5 : decode cX4_value 5 = .ok (.ifCond .eq 7, 3) := by decide +kernel
theorem dX4_value_8 : decode cX4_value 8 = .ok (.iconst 1, 1) := by decide +kernel
theorem dX4_value_9 : decode cX4_value 9 = .ok (.goto 20, 3) := by decide +kernel
theorem dX4_value_12 : decode cX4_value 12 = .ok (.iload_n 2, 1) := by decide +kernel
theorem dX4_value_13 : decode cX4_value 13 = .ok (.ifCond .lt 11, 3) := by decide +kernel
theorem dX4_value_16 : decode cX4_value 16 = .ok (.iload_n 2, 1) := by decide +kernel
theorem dX4_value_17 : decode cX4_value 17 = .ok (.aload_n 0, 1) := by decide +kernel
theorem dX4_value_18 : decode cX4_value 18 = .ok (.getfield 7, 3) := by decide +kernel
theorem dX4_value_21 : decode cX4_value 21 = .ok (.if_icmp .lt 7, 3) := by decide +kernel
theorem dX4_value_24 : decode cX4_value 24 = .ok (.iconst 2, 1) := by decide +kernel
theorem dX4_value_25 : decode cX4_value 25 = .ok (.goto 4, 3) := by decide +kernel
theorem dX4_value_28 : decode cX4_value 28 = .ok (.iconst 0, 1) := by decide +kernel
theorem dX4_value_29 : decode cX4_value 29 = .ok (.putfield 36, 3) := by decide +kernel
theorem dX4_value_32 : decode cX4_value 32 = .ok (.aload_n 0, 1) := by decide +kernel
theorem dX4_value_33 : decode cX4_value 33 = .ok (.getfield 36, 3) := by decide +kernel
theorem dX4_value_36 : decode cX4_value 36 = .ok (.ifCond .le 7, 3) := by decide +kernel
theorem dX4_value_39 : decode cX4_value 39 = .ok (.iconst 0, 1) := by decide +kernel
theorem dX4_value_40 : decode cX4_value 40 = .ok (.goto 11, 3) := by decide +kernel
theorem dX4_value_43 : decode cX4_value 43 = .ok (.aload_n 0, 1) := by decide +kernel
theorem dX4_value_44 : decode cX4_value 44 = .ok (.iload_n 1, 1) := by decide +kernel
theorem dX4_value_45 : decode cX4_value 45 = .ok (.iload_n 2, 1) := by decide +kernel
theorem dX4_value_46 : decode cX4_value 46 = .ok (.iconst 0, 1) := by decide +kernel
theorem dX4_value_47 : decode cX4_value 47 = .ok (.invokevirtual 88, 3) := by decide +kernel
theorem dX4_value_50 : decode cX4_value 50 = .ok (.l2i, 1) := by decide +kernel
theorem dX4_value_51 : decode cX4_value 51 = .ok (.ireturn, 1) := by decide +kernel
set_option maxRecDepth 20000 in
theorem ggX4_back_X4_noPrime : GoodIn wsX4_back wsX4_noPrime := goodIn_r _ [7] (by decide +kernel) (by decide +kernel)
set_option maxRecDepth 20000 in
theorem gX4_back_X4_noPrime : GoodIn wsX4_back (va_wsS RX4 66 yX4_noPrime wsX4_noPrime) := goodIn_app (goodIn_of _ (by decide +kernel)) ggX4_back_X4_noPrime
set_option maxRecDepth 20000 in
theorem ggX4_back_X4_prime : GoodIn wsX4_back wsX4_prime := goodIn_r _ [10, 11, 12, 13] (by decide +kernel) (by decide +kernel)
set_option maxRecDepth 20000 in
theorem gX4_back_X4_prime : GoodIn wsX4_back (va_wsS RX4 69 yX4_prime wsX4_prime) := goodIn_app (goodIn_of _ (by decide +kernel)) ggX4_back_X4_prime
set_option maxRecDepth 20000 in
theorem ggX4_back_X4_sumOf : GoodIn wsX4_back wsX4_sumOf := goodIn_r _ [17, 1, 18, 8, 9, 6, 10, 11, 12, 13, 19, 20, 21, 22, 23, 24, 25, 26, 3, 27, 28, 29, 30, 31, 32, 33, 34, 35, 36, 37, 38, 39] (by decide +kernel) (by decide +kernel)
set_option maxRecDepth 20000 in
theorem gX4_back_X4_sumOf : GoodIn wsX4_back (wsV RX4 88 RX4 yX4_sumOf wsX4_sumOf) := goodIn_app (goodIn_of _ (by decide +kernel)) ggX4_back_X4_sumOf
set_option maxRecDepth 20000 in
theorem ggX4_back_X4_raised : GoodIn wsX4_back wsX4_raised := goodIn_r _ [26, 3] (by decide +kernel) (by decide +kernel)
set_option maxRecDepth 20000 in
theorem gX4_back_X4_raised : GoodIn wsX4_back (va_wsS RX4 81 yX4_raised wsX4_raised) := goodIn_app (goodIn_of _ (by decide +kernel)) ggX4_back_X4_raised
theorem dX4_back_0 : decode cX4_back 0 = .ok (.aload_n 0, 1) := by decide +kernel
theorem dX4_back_1 : decode cX4_back 1 = .ok (.iload_n 1, 1) := by decide +kernel
theorem dX4_back_2 : decode cX4_back 2 = .ok (.invokestatic 66, 3) := by decide +kernel
theorem dX4_back_5 : decode cX4_back 5 = .ok (.ifCond .eq 7, 3) := by decide +kernel
theorem dX4_back_8 : decode cX4_back 8 = .ok (.iconst 1, 1) := by decide +kernel
theorem dX4_back_9 : decode cX4_back 9 = .ok (.goto 20, 3) := by decide +kernel
theorem dX4_back_12 : decode cX4_back 12 = .ok (.iload_n 2, 1) := by decide +kernel
theorem dX4_back_13 : decode cX4_back 13 = .ok (.ifCond .lt 11, 3) := by decide +kernel
theorem dX4_back_16 : decode cX4_back 16 = .ok (.iload_n 2, 1) := by decide +kernel
theorem dX4_back_17 : decode cX4_back 17 = .ok (.aload_n 0, 1) := by decide +kernel
theorem dX4_back_18 : decode cX4_back 18 = .ok (.getfield 7, 3) := by decide +kernel
theorem dX4_back_21 : decode cX4_back 21 = .ok (.if_icmp .lt 7, 3) := by decide +kernel
theorem dX4_back_24 : decode cX4_back 24 = .ok (.iconst 2, 1) := by decide +kernel
theorem dX4_back_25 : decode cX4_back 25 = .ok (.goto 4, 3) := by decide +kernel
theorem dX4_back_28 : decode cX4_back 28 = .ok (.iconst 0, 1) := by decide +kernel
theorem dX4_back_29 : decode cX4_back 29 = .ok (.putfield 36, 3) := by decide +kernel
theorem dX4_back_32 : decode cX4_back 32 = .ok (.aload_n 0, 1) := by decide +kernel
theorem dX4_back_33 : decode cX4_back 33 = .ok (.getfield 36, 3) := by decide +kernel
theorem dX4_back_36 : decode cX4_back 36 = .ok (.ifCond .le 5, 3) := by decide +kernel
theorem dX4_back_39 : decode cX4_back 39 = .ok (.iconst 0, 1) := by decide +kernel
theorem dX4_back_40 : decode cX4_back 40 = .ok (.ireturn, 1) := by decide +kernel
theorem dX4_back_41 : decode cX4_back 41 = .ok (.iload_n 1, 1) := by decide +kernel
theorem dX4_back_42 : decode cX4_back 42 = .ok (.invokestatic 69, 3) := by decide +kernel
theorem dX4_back_45 : decode cX4_back 45 = .ok (.lstore_n 3, 1) := by decide +kernel
theorem dX4_back_46 : decode cX4_back 46 = .ok (.aload_n 0, 1) := by decide +kernel
theorem dX4_back_47 : decode cX4_back 47 = .ok (.iload_n 1, 1) := by decide +kernel
theorem dX4_back_48 : decode cX4_back 48 = .ok (.iload_n 2, 1) := by decide +kernel
theorem dX4_back_49 : decode cX4_back 49 = .ok (.iconst 1, 1) := by decide +kernel
theorem dX4_back_50 : decode cX4_back 50 = .ok (.invokevirtual 88, 3) := by decide +kernel
theorem dX4_back_53 : decode cX4_back 53 = .ok (.aload_n 0, 1) := by decide +kernel
theorem dX4_back_54 : decode cX4_back 54 = .ok (.getfield 7, 3) := by decide +kernel
theorem dX4_back_57 : decode cX4_back 57 = .ok (.i2l, 1) := by decide +kernel
theorem dX4_back_58 : decode cX4_back 58 = .ok (.lload_n 3, 1) := by decide +kernel
theorem dX4_back_59 : decode cX4_back 59 = .ok (.ldc2_w 77, 3) := by decide +kernel
theorem dX4_back_62 : decode cX4_back 62 = .ok (.lsub, 1) := by decide +kernel
theorem dX4_back_63 : decode cX4_back 63 = .ok (.lload_n 3, 1) := by decide +kernel
theorem dX4_back_64 : decode cX4_back 64 = .ok (.invokestatic 81, 3) := by decide +kernel
theorem dX4_back_67 : decode cX4_back 67 = .ok (.lmul, 1) := by decide +kernel
theorem dX4_back_68 : decode cX4_back 68 = .ok (.lload_n 3, 1) := by decide +kernel
theorem dX4_back_69 : decode cX4_back 69 = .ok (.lrem, 1) := by decide +kernel
theorem dX4_back_70 : decode cX4_back 70 = .ok (.l2i, 1) := by decide +kernel
theorem dX4_back_71 : decode cX4_back 71 = .ok (.ireturn, 1) := by decide +kernel
theorem dX4_keep_0 : decode cX4_keep 0 = .ok (.aload_n 0, 1) := by decide +kernel
theorem dX4_keep_1 : decode cX4_keep 1 = .ok (.aload_n 0, 1) := by decide +kernel
theorem dX4_keep_2 : decode cX4_keep 2 = .ok (.getfield 39, 3) := by decide +kernel
theorem dX4_keep_5 : decode cX4_keep 5 = .ok (.ifCond .ne 7, 3) := by decide +kernel
theorem dX4_keep_8 : decode cX4_keep 8 = .ok (.iconst 1, 1) := by decide +kernel
theorem dX4_keep_9 : decode cX4_keep 9 = .ok (.goto 4, 3) := by decide +kernel
theorem dX4_keep_12 : decode cX4_keep 12 = .ok (.iconst 0, 1) := by decide +kernel
theorem dX4_keep_13 : decode cX4_keep 13 = .ok (.putfield 36, 3) := by decide +kernel
theorem dX4_keep_16 : decode cX4_keep 16 = .ok (.iconst 0, 1) := by decide +kernel
theorem dX4_keep_17 : decode cX4_keep 17 = .ok (.istore_n 1, 1) := by decide +kernel
theorem dX4_keep_18 : decode cX4_keep 18 = .ok (.iload_n 1, 1) := by decide +kernel
theorem dX4_keep_19 : decode cX4_keep 19 = .ok (.aload_n 0, 1) := by decide +kernel
theorem dX4_keep_20 : decode cX4_keep 20 = .ok (.getfield 7, 3) := by decide +kernel
theorem dX4_keep_23 : decode cX4_keep 23 = .ok (.if_icmp .ge 29, 3) := by decide +kernel
theorem dX4_keep_26 : decode cX4_keep 26 = .ok (.aload_n 0, 1) := by decide +kernel
theorem dX4_keep_27 : decode cX4_keep 27 = .ok (.getfield 36, 3) := by decide +kernel
theorem dX4_keep_30 : decode cX4_keep 30 = .ok (.ifCond .ne 22, 3) := by decide +kernel
theorem dX4_keep_33 : decode cX4_keep 33 = .ok (.aload_n 0, 1) := by decide +kernel
theorem dX4_keep_34 : decode cX4_keep 34 = .ok (.getfield 13, 3) := by decide +kernel
theorem dX4_keep_37 : decode cX4_keep 37 = .ok (.iload_n 1, 1) := by decide +kernel
theorem dX4_keep_38 : decode cX4_keep 38 = .ok (.aload_n 0, 1) := by decide +kernel
theorem dX4_keep_39 : decode cX4_keep 39 = .ok (.getfield 20, 3) := by decide +kernel
theorem dX4_keep_42 : decode cX4_keep 42 = .ok (.iload_n 1, 1) := by decide +kernel
theorem dX4_keep_43 : decode cX4_keep 43 = .ok (.laload, 1) := by decide +kernel
theorem dX4_keep_44 : decode cX4_keep 44 = .ok (.l2i, 1) := by decide +kernel
theorem dX4_keep_45 : decode cX4_keep 45 = .ok (.iastore, 1) := by decide +kernel
theorem dX4_keep_46 : decode cX4_keep 46 = .ok (.iinc 1 1, 3) := by decide +kernel
theorem dX4_keep_49 : decode cX4_keep 49 = .ok (.goto (-31), 3) := by decide +kernel
theorem dX4_keep_52 : decode cX4_keep 52 = .ok (.return_, 1) := by decide +kernel
set_option maxRecDepth 20000 in
theorem ggX4_product_X4_noPrime : GoodIn wsX4_product wsX4_noPrime := goodIn_r _ [5] (by decide +kernel) (by decide +kernel)
set_option maxRecDepth 20000 in
theorem gX4_product_X4_noPrime : GoodIn wsX4_product (va_wsS RX4 66 yX4_noPrime wsX4_noPrime) := goodIn_app (goodIn_of _ (by decide +kernel)) ggX4_product_X4_noPrime
set_option maxRecDepth 20000 in
theorem ggX4_product_X4_prime : GoodIn wsX4_product wsX4_prime := goodIn_r _ [8, 9, 10, 11] (by decide +kernel) (by decide +kernel)
set_option maxRecDepth 20000 in
theorem gX4_product_X4_prime : GoodIn wsX4_product (va_wsS RX4 69 yX4_prime wsX4_prime) := goodIn_app (goodIn_of _ (by decide +kernel)) ggX4_product_X4_prime
set_option maxRecDepth 20000 in
theorem ggX4_product_X4_restOf : GoodIn wsX4_product wsX4_restOf := goodIn_r _ [14] (by decide +kernel) (by decide +kernel)
set_option maxRecDepth 20000 in
theorem gX4_product_X4_restOf : GoodIn wsX4_product (va_wsS RX4 73 yX4_restOf wsX4_restOf) := goodIn_app (goodIn_of _ (by decide +kernel)) ggX4_product_X4_restOf
theorem dX4_product_0 : decode cX4_product 0 = .ok (.aload_n 0, 1) := by decide +kernel
theorem dX4_product_1 : decode cX4_product 1 = .ok (.iload_n 1, 1) := by decide +kernel
theorem dX4_product_2 : decode cX4_product 2 = .ok (.invokestatic 66, 3) := by decide +kernel
theorem dX4_product_5 : decode cX4_product 5 = .ok (.ifCond .eq 7, 3) := by decide +kernel
theorem dX4_product_8 : decode cX4_product 8 = .ok (.iconst 1, 1) := by decide +kernel
theorem dX4_product_9 : decode cX4_product 9 = .ok (.goto 4, 3) := by decide +kernel
theorem dX4_product_12 : decode cX4_product 12 = .ok (.iconst 0, 1) := by decide +kernel
theorem dX4_product_13 : decode cX4_product 13 = .ok (.putfield 36, 3) := by decide +kernel
theorem dX4_product_16 : decode cX4_product 16 = .ok (.aload_n 0, 1) := by decide +kernel
theorem dX4_product_17 : decode cX4_product 17 = .ok (.getfield 36, 3) := by decide +kernel
theorem dX4_product_20 : decode cX4_product 20 = .ok (.ifCond .le 5, 3) := by decide +kernel
theorem dX4_product_23 : decode cX4_product 23 = .ok (.iconst 0, 1) := by decide +kernel
theorem dX4_product_24 : decode cX4_product 24 = .ok (.ireturn, 1) := by decide +kernel
theorem dX4_product_25 : decode cX4_product 25 = .ok (.iload_n 1, 1) := by decide +kernel
theorem dX4_product_26 : decode cX4_product 26 = .ok (.invokestatic 69, 3) := by decide +kernel
theorem dX4_product_29 : decode cX4_product 29 = .ok (.lstore 4, 2) := by decide +kernel
theorem dX4_product_31 : decode cX4_product 31 = .ok (.iload_n 2, 1) := by decide +kernel
theorem dX4_product_32 : decode cX4_product 32 = .ok (.i2l, 1) := by decide +kernel
theorem dX4_product_33 : decode cX4_product 33 = .ok (.lload 4, 2) := by decide +kernel
theorem dX4_product_35 : decode cX4_product 35 = .ok (.invokestatic 73, 3) := by decide +kernel
theorem dX4_product_38 : decode cX4_product 38 = .ok (.iload_n 3, 1) := by decide +kernel
theorem dX4_product_39 : decode cX4_product 39 = .ok (.i2l, 1) := by decide +kernel
theorem dX4_product_40 : decode cX4_product 40 = .ok (.lload 4, 2) := by decide +kernel
theorem dX4_product_42 : decode cX4_product 42 = .ok (.invokestatic 73, 3) := by decide +kernel
theorem dX4_product_45 : decode cX4_product 45 = .ok (.lmul, 1) := by decide +kernel
theorem dX4_product_46 : decode cX4_product 46 = .ok (.lload 4, 2) := by decide +kernel
theorem dX4_product_48 : decode cX4_product 48 = .ok (.lrem, 1) := by decide +kernel
theorem dX4_product_49 : decode cX4_product 49 = .ok (.l2i, 1) := by decide +kernel
theorem dX4_product_50 : decode cX4_product 50 = .ok (.ireturn, 1) := by decide +kernel
set_option maxRecDepth 20000 in
theorem ggX4_root_X4_noPrime : GoodIn wsX4_root wsX4_noPrime := goodIn_r _ [6] (by decide +kernel) (by decide +kernel)
set_option maxRecDepth 20000 in
theorem gX4_root_X4_noPrime : GoodIn wsX4_root (va_wsS RX4 66 yX4_noPrime wsX4_noPrime) := goodIn_app (goodIn_of _ (by decide +kernel)) ggX4_root_X4_noPrime
set_option maxRecDepth 20000 in
theorem ggX4_root_X4_restOf : GoodIn wsX4_root wsX4_restOf := goodIn_r _ [9] (by decide +kernel) (by decide +kernel)
set_option maxRecDepth 20000 in
theorem gX4_root_X4_restOf : GoodIn wsX4_root (va_wsS RX4 73 yX4_restOf wsX4_restOf) := goodIn_app (goodIn_of _ (by decide +kernel)) ggX4_root_X4_restOf
set_option maxRecDepth 20000 in
theorem ggX4_root_X4_rootOf : GoodIn wsX4_root wsX4_rootOf := goodIn_r _ [13, 14, 2, 15, 16, 5, 17, 18, 19, 20, 21, 22, 23, 24, 25, 26, 27, 28, 29, 30, 31, 32, 33, 34] (by decide +kernel) (by decide +kernel)
set_option maxRecDepth 20000 in
theorem gX4_root_X4_rootOf : GoodIn wsX4_root (wsV RX4 85 RX4 yX4_rootOf wsX4_rootOf) := goodIn_app (goodIn_of _ (by decide +kernel)) ggX4_root_X4_rootOf
set_option maxRecDepth 20000 in
theorem ggX4_root_X4_prime : GoodIn wsX4_root wsX4_prime := goodIn_r _ [17, 18, 19, 20] (by decide +kernel) (by decide +kernel)
set_option maxRecDepth 20000 in
theorem gX4_root_X4_prime : GoodIn wsX4_root (va_wsS RX4 69 yX4_prime wsX4_prime) := goodIn_app (goodIn_of _ (by decide +kernel)) ggX4_root_X4_prime
set_option maxRecDepth 20000 in
theorem ggX4_root_X4_raised : GoodIn wsX4_root wsX4_raised := goodIn_r _ [23, 24] (by decide +kernel) (by decide +kernel)
set_option maxRecDepth 20000 in
theorem gX4_root_X4_raised : GoodIn wsX4_root (va_wsS RX4 81 yX4_raised wsX4_raised) := goodIn_app (goodIn_of _ (by decide +kernel)) ggX4_root_X4_raised
theorem dX4_root_0 : decode cX4_root 0 = .ok (.aload_n 0, 1) := by decide +kernel
theorem dX4_root_1 : decode cX4_root 1 = .ok (.iload_n 1, 1) := by decide +kernel
theorem dX4_root_2 : decode cX4_root 2 = .ok (.invokestatic 66, 3) := by decide +kernel
theorem dX4_root_5 : decode cX4_root 5 = .ok (.ifCond .eq 7, 3) := by decide +kernel
theorem dX4_root_8 : decode cX4_root 8 = .ok (.iconst 1, 1) := by decide +kernel
theorem dX4_root_9 : decode cX4_root 9 = .ok (.goto 4, 3) := by decide +kernel
theorem dX4_root_12 : decode cX4_root 12 = .ok (.iconst 0, 1) := by decide +kernel
theorem dX4_root_13 : decode cX4_root 13 = .ok (.putfield 36, 3) := by decide +kernel
theorem dX4_root_16 : decode cX4_root 16 = .ok (.aload_n 0, 1) := by decide +kernel
theorem dX4_root_17 : decode cX4_root 17 = .ok (.getfield 36, 3) := by decide +kernel
theorem dX4_root_20 : decode cX4_root 20 = .ok (.ifCond .le 5, 3) := by decide +kernel
theorem dX4_root_23 : decode cX4_root 23 = .ok (.iconst 0, 1) := by decide +kernel
theorem dX4_root_24 : decode cX4_root 24 = .ok (.ireturn, 1) := by decide +kernel
theorem dX4_root_25 : decode cX4_root 25 = .ok (.iload_n 2, 1) := by decide +kernel
theorem dX4_root_26 : decode cX4_root 26 = .ok (.i2l, 1) := by decide +kernel
theorem dX4_root_27 : decode cX4_root 27 = .ok (.aload_n 0, 1) := by decide +kernel
theorem dX4_root_28 : decode cX4_root 28 = .ok (.getfield 7, 3) := by decide +kernel
theorem dX4_root_31 : decode cX4_root 31 = .ok (.i2l, 1) := by decide +kernel
theorem dX4_root_32 : decode cX4_root 32 = .ok (.invokestatic 73, 3) := by decide +kernel
theorem dX4_root_35 : decode cX4_root 35 = .ok (.lstore_n 3, 1) := by decide +kernel
theorem dX4_root_36 : decode cX4_root 36 = .ok (.aload_n 0, 1) := by decide +kernel
theorem dX4_root_37 : decode cX4_root 37 = .ok (.iload_n 1, 1) := by decide +kernel
theorem dX4_root_38 : decode cX4_root 38 = .ok (.invokevirtual 85, 3) := by decide +kernel
theorem dX4_root_41 : decode cX4_root 41 = .ok (.lload_n 3, 1) := by decide +kernel
theorem dX4_root_42 : decode cX4_root 42 = .ok (.iload_n 1, 1) := by decide +kernel
theorem dX4_root_43 : decode cX4_root 43 = .ok (.invokestatic 69, 3) := by decide +kernel
theorem dX4_root_46 : decode cX4_root 46 = .ok (.invokestatic 81, 3) := by decide +kernel
theorem dX4_root_49 : decode cX4_root 49 = .ok (.l2i, 1) := by decide +kernel
theorem dX4_root_50 : decode cX4_root 50 = .ok (.ireturn, 1) := by decide +kernel
set_option maxRecDepth 20000 in
theorem ggL_size_X3_size : GoodIn wsL_size wsX3_size := goodIn_ca (goodIn_r _ [6, 7, 8, 9, 10, 11, 12, 13, 14, 15, 5, 16, 17, 18, 19, 20, 21, 22, 23, 24] (by decide +kernel) (by decide +kernel)) (goodIn_sub (fun _ h => List.mem_cons_of_mem _ (List.mem_append_right _ h)) (by decide +kernel))
set_option maxRecDepth 20000 in
theorem gL_size_X3_size : GoodIn wsL_size (wsV RL 7 RX3 yX3_size wsX3_size) := goodIn_app (goodIn_of _ (by decide +kernel)) ggL_size_X3_size
end
section
theorem dL_size_0 : decode cL_size 0 = .ok (.aload_n 0, 1) := by decide +kernel
theorem dL_size_1 : decode cL_size 1 = .ok (.iload_n 1, 1) := by decide +kernel
theorem dL_size_2 : decode cL_size 2 = .ok (.invokevirtual 7, 3) := by decide +kernel
theorem dL_size_5 : decode cL_size 5 = .ok (.goto 6, 3) := by decide +kernel
theorem dL_size_8 : decode cL_size 8 = .ok (.astore_n 2, 1) := by decide +kernel
theorem dL_size_9 : decode cL_size 9 = .ok (.iconst 1, 1) := by decide +kernel
theorem dL_size_10 : decode cL_size 10 = .ok (.ireturn, 1) := by decide +kernel
theorem dL_size_11 : decode cL_size 11 = .ok (.iconst 0, 1) := by decide +kernel
theorem dL_size_12 : decode cL_size 12 = .ok (.ireturn, 1) := by decide +kernel
set_option maxRecDepth 20000 in
theorem ggL_setA_X3_setA : GoodIn wsL_setA wsX3_setA := goodIn_ca (goodIn_r _ [6, 7, 8, 9, 10, 5, 11, 12, 13, 14, 15, 16, 17, 18, 19, 20, 21, 22, 23, 24, 25, 26] (by decide +kernel) (by decide +kernel)) (goodIn_sub (fun _ h => List.mem_cons_of_mem _ (List.mem_append_right _ h)) (by decide +kernel))
set_option maxRecDepth 20000 in
theorem gL_setA_X3_setA : GoodIn wsL_setA (wsV RL 15 RX3 yX3_setA wsX3_setA) := goodIn_app (goodIn_of _ (by decide +kernel)) ggL_setA_X3_setA
theorem dL_setA_0 : decode cL_setA 0 = .ok (.aload_n 3, 1) := by decide +kernel
theorem dL_setA_1 : decode cL_setA 1 = .ok (.iconst 0, 1) := by decide +kernel
theorem dL_setA_2 : decode cL_setA 2 = .ok (.aload_n 0, 1) := by decide +kernel
theorem dL_setA_3 : decode cL_setA 3 = .ok (.iload_n 1, 1) := by decide +kernel
theorem dL_setA_4 : decode cL_setA 4 = .ok (.iload_n 2, 1) := by decide +kernel
theorem dL_setA_5 : decode cL_setA 5 = .ok (.invokevirtual 15, 3) := by decide +kernel
theorem dL_setA_8 : decode cL_setA 8 = .ok (.i2l, 1) := by decide +kernel
theorem dL_setA_9 : decode cL_setA 9 = .ok (.lastore, 1) := by decide +kernel
theorem dL_setA_10 : decode cL_setA 10 = .ok (.goto 7, 3) := by decide +kernel
theorem dL_setA_13 : decode cL_setA 13 = .ok (.astore 4, 2) := by decide +kernel
theorem dL_setA_15 : decode cL_setA 15 = .ok (.iconst 1, 1) := by decide +kernel
theorem dL_setA_16 : decode cL_setA 16 = .ok (.ireturn, 1) := by decide +kernel
theorem dL_setA_17 : decode cL_setA 17 = .ok (.iconst 0, 1) := by decide +kernel
theorem dL_setA_18 : decode cL_setA 18 = .ok (.ireturn, 1) := by decide +kernel
set_option maxRecDepth 20000 in
theorem ggL_setB_X3_setB : GoodIn wsL_setB wsX3_setB := goodIn_ca (goodIn_r _ [6, 7, 8, 9, 10, 5, 11, 12, 13, 14, 15, 16, 17, 18, 19, 20, 21, 22, 23, 24, 25, 26] (by decide +kernel) (by decide +kernel)) (goodIn_sub (fun _ h => List.mem_cons_of_mem _ (List.mem_append_right _ h)) (by decide +kernel))
set_option maxRecDepth 20000 in
theorem gL_setB_X3_setB : GoodIn wsL_setB (wsV RL 21 RX3 yX3_setB wsX3_setB) := goodIn_app (goodIn_of _ (by decide +kernel)) ggL_setB_X3_setB
theorem dL_setB_0 : decode cL_setB 0 = .ok (.aload_n 3, 1) := by decide +kernel
theorem dL_setB_1 : decode cL_setB 1 = .ok (.iconst 0, 1) := by decide +kernel
theorem dL_setB_2 : decode cL_setB 2 = .ok (.aload_n 0, 1) := by decide +kernel
theorem dL_setB_3 : decode cL_setB 3 = .ok (.iload_n 1, 1) := by decide +kernel
theorem dL_setB_4 : decode cL_setB 4 = .ok (.iload_n 2, 1) := by decide +kernel
theorem dL_setB_5 : decode cL_setB 5 = .ok (.invokevirtual 21, 3) := by decide +kernel
theorem dL_setB_8 : decode cL_setB 8 = .ok (.i2l, 1) := by decide +kernel
theorem dL_setB_9 : decode cL_setB 9 = .ok (.lastore, 1) := by decide +kernel
theorem dL_setB_10 : decode cL_setB 10 = .ok (.goto 7, 3) := by decide +kernel
theorem dL_setB_13 : decode cL_setB 13 = .ok (.astore 4, 2) := by decide +kernel
theorem dL_setB_15 : decode cL_setB 15 = .ok (.iconst 1, 1) := by decide +kernel
theorem dL_setB_16 : decode cL_setB 16 = .ok (.ireturn, 1) := by decide +kernel
theorem dL_setB_17 : decode cL_setB 17 = .ok (.iconst 0, 1) := by decide +kernel
theorem dL_setB_18 : decode cL_setB 18 = .ok (.ireturn, 1) := by decide +kernel
set_option maxRecDepth 20000 in
theorem ggL_a_X3_a : GoodIn wsL_a wsX3_a := goodIn_ca (goodIn_r _ [6, 7, 8, 9, 10, 5, 11, 12, 13, 14, 15, 16, 17, 18, 19, 20, 21, 22, 23, 24, 25, 26] (by decide +kernel) (by decide +kernel)) (goodIn_sub (fun _ h => List.mem_cons_of_mem _ (List.mem_append_right _ h)) (by decide +kernel))
set_option maxRecDepth 20000 in
theorem gL_a_X3_a : GoodIn wsL_a (wsV RL 24 RX3 yX3_a wsX3_a) := goodIn_app (goodIn_of _ (by decide +kernel)) ggL_a_X3_a
theorem dL_a_0 : decode cL_a 0 = .ok (.aload_n 2, 1) := by decide +kernel
theorem dL_a_1 : decode cL_a 1 = .ok (.iconst 0, 1) := by decide +kernel
theorem dL_a_2 : decode cL_a 2 = .ok (.aload_n 0, 1) := by decide +kernel
theorem dL_a_3 : decode cL_a 3 = .ok (.iload_n 1, 1) := by decide +kernel
theorem dL_a_4 : decode cL_a 4 = .ok (.invokevirtual 24, 3) := by decide +kernel
theorem dL_a_7 : decode cL_a 7 = .ok (.i2l, 1) := by decide +kernel
theorem dL_a_8 : decode cL_a 8 = .ok (.lastore, 1) := by decide +kernel
theorem dL_a_9 : decode cL_a 9 = .ok (.goto 6, 3) := by decide +kernel
theorem dL_a_12 : decode cL_a 12 = .ok (.astore_n 3, 1) := by decide +kernel
theorem dL_a_13 : decode cL_a 13 = .ok (.iconst 1, 1) := by decide +kernel
theorem dL_a_14 : decode cL_a 14 = .ok (.ireturn, 1) := by decide +kernel
theorem dL_a_15 : decode cL_a 15 = .ok (.iconst 0, 1) := by decide +kernel
theorem dL_a_16 : decode cL_a 16 = .ok (.ireturn, 1) := by decide +kernel
set_option maxRecDepth 20000 in
theorem ggL_b_X3_b : GoodIn wsL_b wsX3_b := goodIn_ca (goodIn_r _ [6, 7, 8, 9, 10, 5, 11, 12, 13, 14, 15, 16, 17, 18, 19, 20, 21, 22, 23, 24, 25, 26] (by decide +kernel) (by decide +kernel)) (goodIn_sub (fun _ h => List.mem_cons_of_mem _ (List.mem_append_right _ h)) (by decide +kernel))
set_option maxRecDepth 20000 in
theorem gL_b_X3_b : GoodIn wsL_b (wsV RL 28 RX3 yX3_b wsX3_b) := goodIn_app (goodIn_of _ (by decide +kernel)) ggL_b_X3_b
theorem dL_b_0 : decode cL_b 0 = .ok (.aload_n 2, 1) := by decide +kernel
theorem dL_b_1 : decode cL_b 1 = .ok (.iconst 0, 1) := by decide +kernel
theorem dL_b_2 : decode cL_b 2 = .ok (.aload_n 0, 1) := by decide +kernel
theorem dL_b_3 : decode cL_b 3 = .ok (.iload_n 1, 1) := by decide +kernel
theorem dL_b_4 : decode cL_b 4 = .ok (.invokevirtual 28, 3) := by decide +kernel
theorem dL_b_7 : decode cL_b 7 = .ok (.i2l, 1) := by decide +kernel
theorem dL_b_8 : decode cL_b 8 = .ok (.lastore, 1) := by decide +kernel
theorem dL_b_9 : decode cL_b 9 = .ok (.goto 6, 3) := by decide +kernel
theorem dL_b_12 : decode cL_b 12 = .ok (.astore_n 3, 1) := by decide +kernel
theorem dL_b_13 : decode cL_b 13 = .ok (.iconst 1, 1) := by decide +kernel
theorem dL_b_14 : decode cL_b 14 = .ok (.ireturn, 1) := by decide +kernel
theorem dL_b_15 : decode cL_b 15 = .ok (.iconst 0, 1) := by decide +kernel
theorem dL_b_16 : decode cL_b 16 = .ok (.ireturn, 1) := by decide +kernel
set_option maxRecDepth 20000 in
theorem ggL_fold_X3_fold : GoodIn wsL_fold wsX3_fold := goodIn_ca (goodIn_r _ [6, 7, 8, 9, 10, 11, 12, 13, 14, 15, 16, 17, 18, 19, 20, 21, 22, 23, 24, 25, 26, 27, 28, 29, 30, 31, 32, 33, 34, 35, 36, 37, 38, 39, 40, 41, 42, 43, 44, 45, 46, 47, 48, 49, 50, 51, 52, 53, 54, 55, 56, 57, 58, 59, 60, 61, 62, 63, 64, 65, 66, 67, 68, 69, 70, 71, 72, 73, 74, 75, 76, 77, 78, 79, 80, 81, 5, 82, 83, 84, 85, 86, 87, 88, 89, 90, 91, 92, 93, 94] (by decide +kernel) (by decide +kernel)) (goodIn_sub (fun _ h => List.mem_cons_of_mem _ (List.mem_append_right _ h)) (by decide +kernel))
set_option maxRecDepth 20000 in
theorem gL_fold_X3_fold : GoodIn wsL_fold (wsV RL 31 RX3 yX3_fold wsX3_fold) := goodIn_app (goodIn_of _ (by decide +kernel)) ggL_fold_X3_fold
theorem dL_fold_0 : decode cL_fold 0 = .ok (.aload_n 2, 1) := by decide +kernel
theorem dL_fold_1 : decode cL_fold 1 = .ok (.iconst 0, 1) := by decide +kernel
theorem dL_fold_2 : decode cL_fold 2 = .ok (.aload_n 0, 1) := by decide +kernel
theorem dL_fold_3 : decode cL_fold 3 = .ok (.iload_n 1, 1) := by decide +kernel
theorem dL_fold_4 : decode cL_fold 4 = .ok (.invokevirtual 31, 3) := by decide +kernel
theorem dL_fold_7 : decode cL_fold 7 = .ok (.i2l, 1) := by decide +kernel
theorem dL_fold_8 : decode cL_fold 8 = .ok (.lastore, 1) := by decide +kernel
theorem dL_fold_9 : decode cL_fold 9 = .ok (.goto 6, 3) := by decide +kernel
theorem dL_fold_12 : decode cL_fold 12 = .ok (.astore_n 3, 1) := by decide +kernel
theorem dL_fold_13 : decode cL_fold 13 = .ok (.iconst 1, 1) := by decide +kernel
theorem dL_fold_14 : decode cL_fold 14 = .ok (.ireturn, 1) := by decide +kernel
theorem dL_fold_15 : decode cL_fold 15 = .ok (.iconst 0, 1) := by decide +kernel
theorem dL_fold_16 : decode cL_fold 16 = .ok (.ireturn, 1) := by decide +kernel
set_option maxRecDepth 20000 in
theorem ggL_power_X3_power : GoodIn wsL_power wsX3_power := goodIn_ca (goodIn_r _ [6, 7, 8, 9, 10, 11, 12, 13, 14, 15, 16, 17, 5, 18, 19, 20, 21, 22, 23, 24, 25, 26, 27, 28, 29, 30, 31, 32, 33, 34, 35, 36, 37, 38, 39, 40, 41, 42, 43, 44, 45, 46, 47, 48, 49, 50, 51, 52, 53, 54, 55, 56, 57, 58, 59, 60, 61, 62, 63, 64, 65, 66, 67, 68, 69, 70, 71, 72, 73, 74, 75, 76, 77, 78, 79, 80, 81, 82, 83, 84, 85, 86, 87, 88, 89, 90, 91, 92, 93, 94, 95, 96, 97, 98, 99, 100, 101, 102, 103, 104, 105, 106, 107, 108, 109, 110, 111, 112, 113, 114, 115, 116, 117, 118, 119, 120, 121, 122, 123, 124, 125, 126] (by decide +kernel) (by decide +kernel)) (goodIn_sub (fun _ h => List.mem_cons_of_mem _ (List.mem_append_right _ h)) (by decide +kernel))
set_option maxRecDepth 20000 in
theorem gL_power_X3_power : GoodIn wsL_power (wsV RL 34 RX3 yX3_power wsX3_power) := goodIn_app (goodIn_of _ (by decide +kernel)) ggL_power_X3_power
theorem dL_power_0 : decode cL_power 0 = .ok (.aload_n 2, 1) := by decide +kernel
theorem dL_power_1 : decode cL_power 1 = .ok (.iconst 0, 1) := by decide +kernel
theorem dL_power_2 : decode cL_power 2 = .ok (.aload_n 0, 1) := by decide +kernel
theorem dL_power_3 : decode cL_power 3 = .ok (.iload_n 1, 1) := by decide +kernel
theorem dL_power_4 : decode cL_power 4 = .ok (.invokevirtual 34, 3) := by decide +kernel
theorem dL_power_7 : decode cL_power 7 = .ok (.i2l, 1) := by decide +kernel
theorem dL_power_8 : decode cL_power 8 = .ok (.lastore, 1) := by decide +kernel
theorem dL_power_9 : decode cL_power 9 = .ok (.goto 6, 3) := by decide +kernel
theorem dL_power_12 : decode cL_power 12 = .ok (.astore_n 3, 1) := by decide +kernel
theorem dL_power_13 : decode cL_power 13 = .ok (.iconst 1, 1) := by decide +kernel
theorem dL_power_14 : decode cL_power 14 = .ok (.ireturn, 1) := by decide +kernel
theorem dL_power_15 : decode cL_power 15 = .ok (.iconst 0, 1) := by decide +kernel
theorem dL_power_16 : decode cL_power 16 = .ok (.ireturn, 1) := by decide +kernel
set_option maxRecDepth 20000 in
theorem ggL_low_X3_low : GoodIn wsL_low wsX3_low := goodIn_ca (goodIn_r _ [6, 7, 8, 9, 10, 5, 11, 12, 13, 14, 15, 16, 17, 18, 19, 20, 21, 22, 23, 24, 25, 26, 27, 28, 29, 30, 31, 32, 33, 34, 35, 36, 37, 38, 39, 40, 41, 42, 43, 44, 45, 46, 47, 48, 49] (by decide +kernel) (by decide +kernel)) (goodIn_sub (fun _ h => List.mem_cons_of_mem _ (List.mem_append_right _ h)) (by decide +kernel))
set_option maxRecDepth 20000 in
theorem gL_low_X3_low : GoodIn wsL_low (wsV RL 37 RX3 yX3_low wsX3_low) := goodIn_app (goodIn_of _ (by decide +kernel)) ggL_low_X3_low
theorem dL_low_0 : decode cL_low 0 = .ok (.aload_n 2, 1) := by decide +kernel
theorem dL_low_1 : decode cL_low 1 = .ok (.iconst 0, 1) := by decide +kernel
theorem dL_low_2 : decode cL_low 2 = .ok (.aload_n 0, 1) := by decide +kernel
theorem dL_low_3 : decode cL_low 3 = .ok (.iload_n 1, 1) := by decide +kernel
theorem dL_low_4 : decode cL_low 4 = .ok (.invokevirtual 37, 3) := by decide +kernel
theorem dL_low_7 : decode cL_low 7 = .ok (.lastore, 1) := by decide +kernel
theorem dL_low_8 : decode cL_low 8 = .ok (.goto 6, 3) := by decide +kernel
theorem dL_low_11 : decode cL_low 11 = .ok (.astore_n 3, 1) := by decide +kernel
theorem dL_low_12 : decode cL_low 12 = .ok (.iconst 1, 1) := by decide +kernel
theorem dL_low_13 : decode cL_low 13 = .ok (.ireturn, 1) := by decide +kernel
theorem dL_low_14 : decode cL_low 14 = .ok (.iconst 0, 1) := by decide +kernel
theorem dL_low_15 : decode cL_low 15 = .ok (.ireturn, 1) := by decide +kernel
set_option maxRecDepth 20000 in
theorem ggL_high_X3_high : GoodIn wsL_high wsX3_high := goodIn_ca (goodIn_r _ [6, 7, 8, 9, 10, 5, 11, 12, 13, 14, 15, 16, 17, 18, 19, 20, 21, 22, 23, 24, 25, 26, 27, 28, 29, 30, 31, 32, 33, 34, 35, 36, 37, 38, 39, 40, 41, 42, 43, 44, 45, 46, 47, 48, 49, 50] (by decide +kernel) (by decide +kernel)) (goodIn_sub (fun _ h => List.mem_cons_of_mem _ (List.mem_append_right _ h)) (by decide +kernel))
set_option maxRecDepth 20000 in
theorem gL_high_X3_high : GoodIn wsL_high (wsV RL 41 RX3 yX3_high wsX3_high) := goodIn_app (goodIn_of _ (by decide +kernel)) ggL_high_X3_high
theorem dL_high_0 : decode cL_high 0 = .ok (.aload_n 2, 1) := by decide +kernel
theorem dL_high_1 : decode cL_high 1 = .ok (.iconst 0, 1) := by decide +kernel
theorem dL_high_2 : decode cL_high 2 = .ok (.aload_n 0, 1) := by decide +kernel
theorem dL_high_3 : decode cL_high 3 = .ok (.iload_n 1, 1) := by decide +kernel
theorem dL_high_4 : decode cL_high 4 = .ok (.invokevirtual 41, 3) := by decide +kernel
theorem dL_high_7 : decode cL_high 7 = .ok (.i2l, 1) := by decide +kernel
theorem dL_high_8 : decode cL_high 8 = .ok (.lastore, 1) := by decide +kernel
theorem dL_high_9 : decode cL_high 9 = .ok (.goto 6, 3) := by decide +kernel
theorem dL_high_12 : decode cL_high 12 = .ok (.astore_n 3, 1) := by decide +kernel
theorem dL_high_13 : decode cL_high 13 = .ok (.iconst 1, 1) := by decide +kernel
theorem dL_high_14 : decode cL_high 14 = .ok (.ireturn, 1) := by decide +kernel
theorem dL_high_15 : decode cL_high 15 = .ok (.iconst 0, 1) := by decide +kernel
theorem dL_high_16 : decode cL_high 16 = .ok (.ireturn, 1) := by decide +kernel
set_option maxRecDepth 20000 in
theorem ggL_rest_X3_rest : GoodIn wsL_rest wsX3_rest := goodIn_ca (goodIn_ca (goodIn_r _ [7, 8, 9, 10, 11, 6, 12, 13, 14, 15, 16, 17, 18, 19, 20, 21, 22, 23, 24, 25, 26, 27, 28, 29, 30, 31, 32, 33, 34, 35, 36, 37] (by decide +kernel) (by decide +kernel)) (goodIn_sub (fun _ h => List.mem_cons_of_mem _ (List.mem_append_left _ (List.mem_append_right _ h))) (by decide +kernel))) (goodIn_sub (fun _ h => List.mem_cons_of_mem _ (List.mem_append_right _ h)) (by decide +kernel))
set_option maxRecDepth 20000 in
theorem gL_rest_X3_rest : GoodIn wsL_rest (wsV RL 44 RX3 yX3_rest wsX3_rest) := goodIn_app (goodIn_of _ (by decide +kernel)) ggL_rest_X3_rest
theorem dL_rest_0 : decode cL_rest 0 = .ok (.aload_n 3, 1) := by decide +kernel
theorem dL_rest_1 : decode cL_rest 1 = .ok (.iconst 0, 1) := by decide +kernel
theorem dL_rest_2 : decode cL_rest 2 = .ok (.aload_n 0, 1) := by decide +kernel
theorem dL_rest_3 : decode cL_rest 3 = .ok (.iload_n 1, 1) := by decide +kernel
theorem dL_rest_4 : decode cL_rest 4 = .ok (.iload_n 2, 1) := by decide +kernel
theorem dL_rest_5 : decode cL_rest 5 = .ok (.invokevirtual 44, 3) := by decide +kernel
theorem dL_rest_8 : decode cL_rest 8 = .ok (.i2l, 1) := by decide +kernel
theorem dL_rest_9 : decode cL_rest 9 = .ok (.lastore, 1) := by decide +kernel
theorem dL_rest_10 : decode cL_rest 10 = .ok (.goto 11, 3) := by decide +kernel
theorem dL_rest_13 : decode cL_rest 13 = .ok (.astore 4, 2) := by decide +kernel
theorem dL_rest_15 : decode cL_rest 15 = .ok (.iconst 1, 1) := by decide +kernel
theorem dL_rest_16 : decode cL_rest 16 = .ok (.ireturn, 1) := by decide +kernel
theorem dL_rest_17 : decode cL_rest 17 = .ok (.astore 4, 2) := by decide +kernel
theorem dL_rest_19 : decode cL_rest 19 = .ok (.iconst 2, 1) := by decide +kernel
theorem dL_rest_20 : decode cL_rest 20 = .ok (.ireturn, 1) := by decide +kernel
theorem dL_rest_21 : decode cL_rest 21 = .ok (.iconst 0, 1) := by decide +kernel
theorem dL_rest_22 : decode cL_rest 22 = .ok (.ireturn, 1) := by decide +kernel
set_option maxRecDepth 20000 in
theorem ggL_value_X3_value : GoodIn wsL_value wsX3_value := goodIn_ca (goodIn_ca (goodIn_r _ [7, 8, 9, 10, 11, 6, 12, 13, 14, 15, 16, 17, 18, 19, 20, 21, 22, 23, 24, 25, 26, 27, 28, 29, 30, 31, 32, 33, 34, 35, 36, 37, 38, 39, 40, 41, 42, 43, 44, 45, 46, 47, 48, 49, 50, 51, 52, 53, 54] (by decide +kernel) (by decide +kernel)) (goodIn_sub (fun _ h => List.mem_cons_of_mem _ (List.mem_append_left _ (List.mem_append_right _ h))) (by decide +kernel))) (goodIn_sub (fun _ h => List.mem_cons_of_mem _ (List.mem_append_right _ h)) (by decide +kernel))
set_option maxRecDepth 20000 in
theorem gL_value_X3_value : GoodIn wsL_value (wsV RL 47 RX3 yX3_value wsX3_value) := goodIn_app (goodIn_of _ (by decide +kernel)) ggL_value_X3_value
theorem dL_value_0 : decode cL_value 0 = .ok (.aload_n 3, 1) := by decide +kernel
theorem dL_value_1 : decode cL_value 1 = .ok (.iconst 0, 1) := by decide +kernel
theorem dL_value_2 : decode cL_value 2 = .ok (.aload_n 0, 1) := by decide +kernel
theorem dL_value_3 : decode cL_value 3 = .ok (.iload_n 1, 1) := by decide +kernel
theorem dL_value_4 : decode cL_value 4 = .ok (.iload_n 2, 1) := by decide +kernel
theorem dL_value_5 : decode cL_value 5 = .ok (.invokevirtual 47, 3) := by decide +kernel
theorem dL_value_8 : decode cL_value 8 = .ok (.i2l, 1) := by decide +kernel
theorem dL_value_9 : decode cL_value 9 = .ok (.lastore, 1) := by decide +kernel
theorem dL_value_10 : decode cL_value 10 = .ok (.goto 11, 3) := by decide +kernel
theorem dL_value_13 : decode cL_value 13 = .ok (.astore 4, 2) := by decide +kernel
theorem dL_value_15 : decode cL_value 15 = .ok (.iconst 1, 1) := by decide +kernel
theorem dL_value_16 : decode cL_value 16 = .ok (.ireturn, 1) := by decide +kernel
theorem dL_value_17 : decode cL_value 17 = .ok (.astore 4, 2) := by decide +kernel
theorem dL_value_19 : decode cL_value 19 = .ok (.iconst 2, 1) := by decide +kernel
theorem dL_value_20 : decode cL_value 20 = .ok (.ireturn, 1) := by decide +kernel
theorem dL_value_21 : decode cL_value 21 = .ok (.iconst 0, 1) := by decide +kernel
theorem dL_value_22 : decode cL_value 22 = .ok (.ireturn, 1) := by decide +kernel
set_option maxRecDepth 20000 in
theorem ggL_back_X3_back : GoodIn wsL_back wsX3_back := goodIn_ca (goodIn_ca (goodIn_r _ [7, 8, 9, 10, 11, 6, 12, 13, 14, 15, 16, 17, 18, 19, 20, 21, 22, 23, 24, 25, 26, 27, 28, 29, 30, 31, 32, 33, 34, 35, 36, 37, 38, 39, 40, 41, 42, 43, 44, 45, 46, 47, 48, 49, 50, 51, 52, 53, 54, 55, 56, 57] (by decide +kernel) (by decide +kernel)) (goodIn_sub (fun _ h => List.mem_cons_of_mem _ (List.mem_append_left _ (List.mem_append_right _ h))) (by decide +kernel))) (goodIn_sub (fun _ h => List.mem_cons_of_mem _ (List.mem_append_right _ h)) (by decide +kernel))
set_option maxRecDepth 20000 in
theorem gL_back_X3_back : GoodIn wsL_back (wsV RL 50 RX3 yX3_back wsX3_back) := goodIn_app (goodIn_of _ (by decide +kernel)) ggL_back_X3_back
theorem dL_back_0 : decode cL_back 0 = .ok (.aload_n 3, 1) := by decide +kernel
theorem dL_back_1 : decode cL_back 1 = .ok (.iconst 0, 1) := by decide +kernel
theorem dL_back_2 : decode cL_back 2 = .ok (.aload_n 0, 1) := by decide +kernel
theorem dL_back_3 : decode cL_back 3 = .ok (.iload_n 1, 1) := by decide +kernel
theorem dL_back_4 : decode cL_back 4 = .ok (.iload_n 2, 1) := by decide +kernel
theorem dL_back_5 : decode cL_back 5 = .ok (.invokevirtual 50, 3) := by decide +kernel
theorem dL_back_8 : decode cL_back 8 = .ok (.i2l, 1) := by decide +kernel
theorem dL_back_9 : decode cL_back 9 = .ok (.lastore, 1) := by decide +kernel
theorem dL_back_10 : decode cL_back 10 = .ok (.goto 11, 3) := by decide +kernel
theorem dL_back_13 : decode cL_back 13 = .ok (.astore 4, 2) := by decide +kernel
theorem dL_back_15 : decode cL_back 15 = .ok (.iconst 1, 1) := by decide +kernel
theorem dL_back_16 : decode cL_back 16 = .ok (.ireturn, 1) := by decide +kernel
theorem dL_back_17 : decode cL_back 17 = .ok (.astore 4, 2) := by decide +kernel
theorem dL_back_19 : decode cL_back 19 = .ok (.iconst 2, 1) := by decide +kernel
theorem dL_back_20 : decode cL_back 20 = .ok (.ireturn, 1) := by decide +kernel
theorem dL_back_21 : decode cL_back 21 = .ok (.iconst 0, 1) := by decide +kernel
theorem dL_back_22 : decode cL_back 22 = .ok (.ireturn, 1) := by decide +kernel
set_option maxRecDepth 20000 in
theorem ggL_keep_X3_keep : GoodIn wsL_keep wsX3_keep := goodIn_ca (goodIn_r _ [6, 7, 8, 9, 10, 11, 12, 13, 14, 5, 15, 16, 17, 18, 19, 20, 21, 22, 23, 24, 25, 26, 27, 28, 29, 30, 31, 32, 33, 34, 35, 36, 37, 38, 39, 40, 41, 42, 43, 44, 45, 46, 47, 48, 49, 50, 51, 52, 53, 54, 55] (by decide +kernel) (by decide +kernel)) (goodIn_sub (fun _ h => List.mem_cons_of_mem _ (List.mem_append_right _ h)) (by decide +kernel))
set_option maxRecDepth 20000 in
theorem gL_keep_X3_keep : GoodIn wsL_keep (wsV RL 53 RX3 yX3_keep wsX3_keep) := goodIn_app (goodIn_of _ (by decide +kernel)) ggL_keep_X3_keep
theorem dL_keep_0 : decode cL_keep 0 = .ok (.aload_n 0, 1) := by decide +kernel
theorem dL_keep_1 : decode cL_keep 1 = .ok (.invokevirtual 53, 3) := by decide +kernel
theorem dL_keep_4 : decode cL_keep 4 = .ok (.goto 6, 3) := by decide +kernel
theorem dL_keep_7 : decode cL_keep 7 = .ok (.astore_n 1, 1) := by decide +kernel
theorem dL_keep_8 : decode cL_keep 8 = .ok (.iconst 1, 1) := by decide +kernel
theorem dL_keep_9 : decode cL_keep 9 = .ok (.ireturn, 1) := by decide +kernel
theorem dL_keep_10 : decode cL_keep 10 = .ok (.iconst 0, 1) := by decide +kernel
theorem dL_keep_11 : decode cL_keep 11 = .ok (.ireturn, 1) := by decide +kernel
set_option maxRecDepth 20000 in
theorem ggL_product_X3_product : GoodIn wsL_product wsX3_product := goodIn_ca (goodIn_r _ [6, 7, 8, 9, 10, 5, 11, 12, 13, 14, 15, 16, 17] (by decide +kernel) (by decide +kernel)) (goodIn_sub (fun _ h => List.mem_cons_of_mem _ (List.mem_append_right _ h)) (by decide +kernel))
set_option maxRecDepth 20000 in
theorem gL_product_X3_product : GoodIn wsL_product (wsV RL 58 RX3 yX3_product wsX3_product) := goodIn_app (goodIn_of _ (by decide +kernel)) ggL_product_X3_product
theorem dL_product_0 : decode cL_product 0 = .ok (.aload 4, 2) := by decide +kernel
theorem dL_product_2 : decode cL_product 2 = .ok (.iconst 0, 1) := by decide +kernel
theorem dL_product_3 : decode cL_product 3 = .ok (.aload_n 0, 1) := by decide +kernel
theorem dL_product_4 : decode cL_product 4 = .ok (.iload_n 1, 1) := by decide +kernel
theorem dL_product_5 : decode cL_product 5 = .ok (.iload_n 2, 1) := by decide +kernel
theorem dL_product_6 : decode cL_product 6 = .ok (.iload_n 3, 1) := by decide +kernel
theorem dL_product_7 : decode cL_product 7 = .ok (.invokevirtual 58, 3) := by decide +kernel
theorem dL_product_10 : decode cL_product 10 = .ok (.i2l, 1) := by decide +kernel
theorem dL_product_11 : decode cL_product 11 = .ok (.lastore, 1) := by decide +kernel
theorem dL_product_12 : decode cL_product 12 = .ok (.goto 7, 3) := by decide +kernel
theorem dL_product_15 : decode cL_product 15 = .ok (.astore 5, 2) := by decide +kernel
theorem dL_product_17 : decode cL_product 17 = .ok (.iconst 1, 1) := by decide +kernel
theorem dL_product_18 : decode cL_product 18 = .ok (.ireturn, 1) := by decide +kernel
theorem dL_product_19 : decode cL_product 19 = .ok (.iconst 0, 1) := by decide +kernel
theorem dL_product_20 : decode cL_product 20 = .ok (.ireturn, 1) := by decide +kernel
set_option maxRecDepth 20000 in
theorem ggL_root_X3_root : GoodIn wsL_root wsX3_root := goodIn_ca (goodIn_r _ [6, 7, 8, 9, 5, 10, 11, 12, 13, 14, 15, 16, 17, 18, 19, 20, 21, 22, 23, 24, 25, 26, 27, 28, 29, 30, 31, 32, 33, 34, 35, 36, 37, 38, 39] (by decide +kernel) (by decide +kernel)) (goodIn_sub (fun _ h => List.mem_cons_of_mem _ (List.mem_append_right _ h)) (by decide +kernel))
set_option maxRecDepth 20000 in
theorem gL_root_X3_root : GoodIn wsL_root (wsV RL 62 RX3 yX3_root wsX3_root) := goodIn_app (goodIn_of _ (by decide +kernel)) ggL_root_X3_root
theorem dL_root_0 : decode cL_root 0 = .ok (.aload_n 3, 1) := by decide +kernel
theorem dL_root_1 : decode cL_root 1 = .ok (.iconst 0, 1) := by decide +kernel
theorem dL_root_2 : decode cL_root 2 = .ok (.aload_n 0, 1) := by decide +kernel
theorem dL_root_3 : decode cL_root 3 = .ok (.iload_n 1, 1) := by decide +kernel
theorem dL_root_4 : decode cL_root 4 = .ok (.iload_n 2, 1) := by decide +kernel
theorem dL_root_5 : decode cL_root 5 = .ok (.invokevirtual 62, 3) := by decide +kernel
theorem dL_root_8 : decode cL_root 8 = .ok (.i2l, 1) := by decide +kernel
theorem dL_root_9 : decode cL_root 9 = .ok (.lastore, 1) := by decide +kernel
theorem dL_root_10 : decode cL_root 10 = .ok (.goto 7, 3) := by decide +kernel
theorem dL_root_13 : decode cL_root 13 = .ok (.astore 4, 2) := by decide +kernel
theorem dL_root_15 : decode cL_root 15 = .ok (.iconst 1, 1) := by decide +kernel
theorem dL_root_16 : decode cL_root 16 = .ok (.ireturn, 1) := by decide +kernel
theorem dL_root_17 : decode cL_root 17 = .ok (.iconst 0, 1) := by decide +kernel
theorem dL_root_18 : decode cL_root 18 = .ok (.ireturn, 1) := by decide +kernel
set_option maxRecDepth 20000 in
theorem ggL_law_X3_init : GoodIn wsL_law wsX3_init := goodIn_r _ [9, 10, 11, 12, 13, 14, 15, 16, 17, 18, 19, 20, 21, 22, 23, 24, 25, 26, 27, 28, 29, 30, 31, 32, 33, 34, 35, 36, 37, 6, 38, 39, 40, 416, 417, 418, 419, 420, 421, 422, 423, 434, 435, 436, 437] (by decide +kernel) (by decide +kernel)
set_option maxRecDepth 20000 in
theorem gL_law_X3_init : GoodIn wsL_law (wsX3_init) := ggL_law_X3_init
set_option maxRecDepth 20000 in
theorem ggL_law_X4_init : GoodIn wsL_law wsX4_init := goodIn_r _ [43, 44, 11, 12, 45, 14, 46, 47, 6, 48, 49, 50, 51, 52, 424, 425, 426, 427, 428, 429, 430, 431, 432, 433] (by decide +kernel) (by decide +kernel)
set_option maxRecDepth 20000 in
theorem gL_law_X4_init : GoodIn wsL_law (wsX4_init) := ggL_law_X4_init
set_option maxRecDepth 20000 in
theorem ggL_law_L_size : GoodIn wsL_law wsL_size := goodIn_ca (goodIn_r _ [56, 57, 58, 59, 60, 2, 61, 62, 63, 13, 17, 15, 16, 64, 65, 66, 67, 416, 417, 418, 419, 420, 421, 422, 423] (by decide +kernel) (by decide +kernel)) (goodIn_sub (fun _ h => List.mem_append_left _ (List.mem_append_left _ (List.mem_append_right _ h))) (by decide +kernel))
set_option maxRecDepth 20000 in
theorem gL_law_L_size : GoodIn wsL_law (va_wsS RL 69 yL_size wsL_size) := goodIn_app (goodIn_of _ (by decide +kernel)) ggL_law_L_size
set_option maxRecDepth 20000 in
theorem ggL_law_X4_size : GoodIn wsL_law wsX4_size := goodIn_r _ [71, 72, 45, 73, 46, 47, 424, 425, 426, 427, 428, 429, 430, 431, 432, 433] (by decide +kernel) (by decide +kernel)
set_option maxRecDepth 20000 in
theorem gL_law_X4_size : GoodIn wsL_law (wsV RL 74 RX4 yX4_size wsX4_size) := goodIn_app (goodIn_of _ (by decide +kernel)) ggL_law_X4_size
set_option maxRecDepth 20000 in
theorem ggL_law_X4_thrown : GoodIn wsL_law wsX4_thrown := goodIn_r _ [77, 72, 424, 425, 426, 427, 428, 429, 430, 431, 432, 433] (by decide +kernel) (by decide +kernel)
set_option maxRecDepth 20000 in
theorem gL_law_X4_thrown : GoodIn wsL_law (wsV RL 75 RX4 yX4_thrown wsX4_thrown) := goodIn_app (goodIn_of _ (by decide +kernel)) ggL_law_X4_thrown
set_option maxRecDepth 20000 in
theorem ggL_law_L_setA : GoodIn wsL_law wsL_setA := goodIn_ca (goodIn_r _ [80, 81, 82, 83, 84, 2, 85, 15, 86, 87, 88, 89, 90, 91, 64, 65, 66, 67, 13, 416, 417, 418, 419, 420, 421, 422, 423] (by decide +kernel) (by decide +kernel)) (goodIn_sub (fun _ h => List.mem_append_left _ (List.mem_append_right _ h)) (by decide +kernel))
set_option maxRecDepth 20000 in
theorem gL_law_L_setA : GoodIn wsL_law (va_wsS RL 79 yL_setA wsL_setA) := goodIn_app (goodIn_of _ (by decide +kernel)) ggL_law_L_setA
set_option maxRecDepth 20000 in
theorem ggL_law_X4_setA : GoodIn wsL_law wsX4_setA := goodIn_r _ [95, 46, 96, 97, 98, 5, 99, 45, 72, 424, 425, 426, 427, 428, 429, 430, 431, 432, 433] (by decide +kernel) (by decide +kernel)
set_option maxRecDepth 20000 in
theorem gL_law_X4_setA : GoodIn wsL_law (wsV RL 82 RX4 yX4_setA wsX4_setA) := goodIn_app (goodIn_of _ (by decide +kernel)) ggL_law_X4_setA
set_option maxRecDepth 20000 in
theorem ggL_law_L_setB : GoodIn wsL_law wsL_setB := goodIn_ca (goodIn_r _ [102, 81, 103, 104, 105, 2, 106, 16, 86, 87, 88, 89, 90, 91, 64, 65, 66, 67, 13, 416, 417, 418, 419, 420, 421, 422, 423] (by decide +kernel) (by decide +kernel)) (goodIn_sub (fun _ h => List.mem_append_left _ (List.mem_append_right _ h)) (by decide +kernel))
set_option maxRecDepth 20000 in
theorem gL_law_L_setB : GoodIn wsL_law (va_wsS RL 83 yL_setB wsL_setB) := goodIn_app (goodIn_of _ (by decide +kernel)) ggL_law_L_setB
set_option maxRecDepth 20000 in
theorem ggL_law_X4_setB : GoodIn wsL_law wsX4_setB := goodIn_r _ [110, 47, 96, 97, 98, 5, 99, 45, 72, 424, 425, 426, 427, 428, 429, 430, 431, 432, 433] (by decide +kernel) (by decide +kernel)
set_option maxRecDepth 20000 in
theorem gL_law_X4_setB : GoodIn wsL_law (wsV RL 85 RX4 yX4_setB wsX4_setB) := goodIn_app (goodIn_of _ (by decide +kernel)) ggL_law_X4_setB
set_option maxRecDepth 20000 in
theorem ggL_law_L_a : GoodIn wsL_law wsL_a := goodIn_ca (goodIn_r _ [113, 81, 114, 115, 116, 2, 117, 15, 86, 87, 88, 89, 90, 91, 64, 65, 66, 67, 13, 416, 417, 418, 419, 420, 421, 422, 423] (by decide +kernel) (by decide +kernel)) (goodIn_sub (fun _ h => List.mem_append_left _ (List.mem_append_right _ h)) (by decide +kernel))
set_option maxRecDepth 20000 in
theorem gL_law_L_a : GoodIn wsL_law (va_wsS RL 86 yL_a wsL_a) := goodIn_app (goodIn_of _ (by decide +kernel)) ggL_law_L_a
set_option maxRecDepth 20000 in
theorem ggL_law_X4_a : GoodIn wsL_law wsX4_a := goodIn_r _ [121, 46, 96, 97, 98, 5, 99, 45, 72, 424, 425, 426, 427, 428, 429, 430, 431, 432, 433] (by decide +kernel) (by decide +kernel)
set_option maxRecDepth 20000 in
theorem gL_law_X4_a : GoodIn wsL_law (wsV RL 89 RX4 yX4_a wsX4_a) := goodIn_app (goodIn_of _ (by decide +kernel)) ggL_law_X4_a
set_option maxRecDepth 20000 in
theorem ggL_law_L_b : GoodIn wsL_law wsL_b := goodIn_ca (goodIn_r _ [124, 81, 125, 126, 127, 2, 128, 16, 86, 87, 88, 89, 90, 91, 64, 65, 66, 67, 13, 416, 417, 418, 419, 420, 421, 422, 423] (by decide +kernel) (by decide +kernel)) (goodIn_sub (fun _ h => List.mem_append_left _ (List.mem_append_right _ h)) (by decide +kernel))
set_option maxRecDepth 20000 in
theorem gL_law_L_b : GoodIn wsL_law (va_wsS RL 90 yL_b wsL_b) := goodIn_app (goodIn_of _ (by decide +kernel)) ggL_law_L_b
set_option maxRecDepth 20000 in
theorem ggL_law_X4_b : GoodIn wsL_law wsX4_b := goodIn_r _ [132, 47, 96, 97, 98, 5, 99, 45, 72, 424, 425, 426, 427, 428, 429, 430, 431, 432, 433] (by decide +kernel) (by decide +kernel)
set_option maxRecDepth 20000 in
theorem gL_law_X4_b : GoodIn wsL_law (wsV RL 92 RX4 yX4_b wsX4_b) := goodIn_app (goodIn_of _ (by decide +kernel)) ggL_law_X4_b
set_option maxRecDepth 20000 in
theorem ggL_law_X3_swap : GoodIn wsL_law wsX3_swap := goodIn_r _ [136, 15, 16, 416, 417, 418, 419, 420, 421, 422, 423] (by decide +kernel) (by decide +kernel)
set_option maxRecDepth 20000 in
theorem gL_law_X3_swap : GoodIn wsL_law (wsV RL 93 RX3 yX3_swap wsX3_swap) := goodIn_app (goodIn_of _ (by decide +kernel)) ggL_law_X3_swap
set_option maxRecDepth 20000 in
theorem ggL_law_X4_swap : GoodIn wsL_law wsX4_swap := goodIn_r _ [140, 72, 45, 46, 47, 424, 425, 426, 427, 428, 429, 430, 431, 432, 433] (by decide +kernel) (by decide +kernel)
set_option maxRecDepth 20000 in
theorem gL_law_X4_swap : GoodIn wsL_law (wsV RL 96 RX4 yX4_swap wsX4_swap) := goodIn_app (goodIn_of _ (by decide +kernel)) ggL_law_X4_swap
set_option maxRecDepth 20000 in
theorem ggL_law_L_fold : GoodIn wsL_law wsL_fold := goodIn_ca (goodIn_r _ [143, 57, 144, 145, 146, 2, 147, 62, 63, 25, 15, 16, 13, 21, 17, 148, 149, 150, 24, 151, 38, 39, 152, 153, 154, 155, 156, 157, 158, 159, 160, 161, 162, 163, 164, 165, 166, 167, 168, 169, 170, 171, 172, 173, 174, 40, 175, 176, 177, 178, 179, 180, 181, 182, 183, 184, 185, 186, 187, 188, 189, 190, 191, 192, 193, 194, 195, 196, 197, 198, 199, 200, 201, 202, 203, 204, 20, 205, 33, 64, 65, 66, 67, 416, 417, 418, 419, 420, 421, 422, 423, 435, 436, 437, 434] (by decide +kernel) (by decide +kernel)) (goodIn_sub (fun _ h => List.mem_append_left _ (List.mem_append_left _ (List.mem_append_right _ h))) (by decide +kernel))
set_option maxRecDepth 20000 in
theorem gL_law_L_fold : GoodIn wsL_law (va_wsS RL 97 yL_fold wsL_fold) := goodIn_app (goodIn_of _ (by decide +kernel)) ggL_law_L_fold
set_option maxRecDepth 20000 in
theorem ggL_law_X4_fold : GoodIn wsL_law wsX4_fold := goodIn_r _ [209, 72, 45, 73, 48, 49, 46, 47, 210, 211, 212, 5, 213, 214, 215, 424, 425, 426, 427, 428, 429, 430, 431, 432, 433] (by decide +kernel) (by decide +kernel)
set_option maxRecDepth 20000 in
theorem gL_law_X4_fold : GoodIn wsL_law (wsV RL 99 RX4 yX4_fold wsX4_fold) := goodIn_app (goodIn_of _ (by decide +kernel)) ggL_law_X4_fold
set_option maxRecDepth 20000 in
theorem ggL_law_L_power : GoodIn wsL_law wsL_power := goodIn_ca (goodIn_r _ [218, 57, 219, 220, 221, 2, 222, 62, 63, 15, 27, 223, 224, 225, 226, 64, 65, 66, 67, 13, 227, 228, 229, 230, 25, 26, 148, 149, 150, 24, 151, 38, 39, 152, 153, 154, 155, 156, 157, 158, 159, 160, 161, 162, 163, 164, 165, 166, 167, 168, 169, 170, 171, 172, 173, 174, 40, 175, 176, 177, 178, 179, 180, 181, 182, 183, 184, 185, 186, 187, 188, 189, 190, 191, 192, 193, 194, 195, 196, 197, 198, 199, 200, 201, 202, 203, 204, 20, 205, 33, 231, 232, 233, 234, 235, 236, 237, 238, 239, 240, 241, 242, 243, 244, 245, 246, 247, 248, 249, 250, 251, 252, 253, 254, 255, 416, 417, 418, 419, 420, 421, 422, 423, 435, 436, 437, 434] (by decide +kernel) (by decide +kernel)) (goodIn_sub (fun _ h => List.mem_append_left _ (List.mem_append_left _ (List.mem_append_right _ h))) (by decide +kernel))
set_option maxRecDepth 20000 in
theorem gL_law_L_power : GoodIn wsL_law (va_wsS RL 100 yL_power wsL_power) := goodIn_app (goodIn_of _ (by decide +kernel)) ggL_law_L_power
set_option maxRecDepth 20000 in
theorem ggL_law_X4_power : GoodIn wsL_law wsX4_power := goodIn_r _ [259, 72, 45, 50, 46, 51, 260, 261, 262, 5, 263, 52, 424, 425, 426, 427, 428, 429, 430, 431, 432, 433] (by decide +kernel) (by decide +kernel)
set_option maxRecDepth 20000 in
theorem gL_law_X4_power : GoodIn wsL_law (wsV RL 102 RX4 yX4_power wsX4_power) := goodIn_app (goodIn_of _ (by decide +kernel)) ggL_law_X4_power
set_option maxRecDepth 20000 in
theorem ggL_law_L_low : GoodIn wsL_law wsL_low := goodIn_ca (goodIn_r _ [266, 81, 267, 268, 269, 2, 270, 21, 271, 272, 273, 274, 90, 91, 17, 275, 236, 237, 20, 238, 239, 240, 241, 242, 243, 33, 244, 245, 246, 247, 157, 158, 159, 248, 249, 250, 251, 252, 253, 254, 255, 416, 417, 418, 419, 420, 421, 422, 423, 434] (by decide +kernel) (by decide +kernel)) (goodIn_sub (fun _ h => List.mem_append_left _ (List.mem_append_right _ h)) (by decide +kernel))
set_option maxRecDepth 20000 in
theorem gL_law_L_low : GoodIn wsL_law (va_wsS RL 103 yL_low wsL_low) := goodIn_app (goodIn_of _ (by decide +kernel)) ggL_law_L_low
set_option maxRecDepth 20000 in
theorem ggL_law_X4_low : GoodIn wsL_law wsX4_low := goodIn_r _ [279, 72, 48, 280, 281, 282, 5, 283, 73, 424, 425, 426, 427, 428, 429, 430, 431, 432, 433] (by decide +kernel) (by decide +kernel)
set_option maxRecDepth 20000 in
theorem gL_law_X4_low : GoodIn wsL_law (wsV RL 105 RX4 yX4_low wsX4_low) := goodIn_app (goodIn_of _ (by decide +kernel)) ggL_law_X4_low
set_option maxRecDepth 20000 in
theorem ggL_law_L_high : GoodIn wsL_law wsL_high := goodIn_ca (goodIn_r _ [286, 81, 287, 288, 289, 2, 290, 21, 271, 272, 273, 274, 90, 91, 17, 291, 292, 293, 20, 294, 295, 296, 240, 241, 242, 243, 33, 244, 245, 246, 247, 157, 158, 159, 248, 249, 250, 251, 252, 253, 254, 255, 416, 417, 418, 419, 420, 421, 422, 423, 434] (by decide +kernel) (by decide +kernel)) (goodIn_sub (fun _ h => List.mem_append_left _ (List.mem_append_right _ h)) (by decide +kernel))
set_option maxRecDepth 20000 in
theorem gL_law_L_high : GoodIn wsL_law (va_wsS RL 106 yL_high wsL_high) := goodIn_app (goodIn_of _ (by decide +kernel)) ggL_law_L_high
set_option maxRecDepth 20000 in
theorem ggL_law_X4_high : GoodIn wsL_law wsX4_high := goodIn_r _ [300, 72, 49, 280, 281, 282, 5, 283, 73, 424, 425, 426, 427, 428, 429, 430, 431, 432, 433] (by decide +kernel) (by decide +kernel)
set_option maxRecDepth 20000 in
theorem gL_law_X4_high : GoodIn wsL_law (wsV RL 108 RX4 yX4_high wsX4_high) := goodIn_app (goodIn_of _ (by decide +kernel)) ggL_law_X4_high
set_option maxRecDepth 20000 in
theorem ggL_law_L_rest : GoodIn wsL_law wsL_rest := goodIn_ca (goodIn_ca (goodIn_r _ [303, 57, 81, 304, 305, 306, 2, 307, 21, 308, 309, 310, 311, 62, 63, 312, 271, 272, 273, 274, 90, 91, 17, 313, 314, 315, 20, 316, 33, 416, 417, 418, 419, 420, 421, 422, 423, 434] (by decide +kernel) (by decide +kernel)) (goodIn_sub (fun _ h => List.mem_append_left _ (List.mem_append_left _ (List.mem_append_right _ h))) (by decide +kernel))) (goodIn_sub (fun _ h => List.mem_append_left _ (List.mem_append_right _ h)) (by decide +kernel))
set_option maxRecDepth 20000 in
theorem gL_law_L_rest : GoodIn wsL_law (va_wsS RL 109 yL_rest wsL_rest) := goodIn_app (goodIn_of _ (by decide +kernel)) ggL_law_L_rest
set_option maxRecDepth 20000 in
theorem ggL_law_X4_rest : GoodIn wsL_law wsX4_rest := goodIn_r _ [320, 72, 49, 321, 48, 322, 323, 5, 324, 280, 281, 282, 283, 73, 325, 326, 327, 328, 329, 330, 331, 332, 333, 424, 425, 426, 427, 428, 429, 430, 431, 432, 433] (by decide +kernel) (by decide +kernel)
set_option maxRecDepth 20000 in
theorem gL_law_X4_rest : GoodIn wsL_law (wsV RL 111 RX4 yX4_rest wsX4_rest) := goodIn_app (goodIn_of _ (by decide +kernel)) ggL_law_X4_rest
set_option maxRecDepth 20000 in
theorem ggL_law_L_value : GoodIn wsL_law wsL_value := goodIn_ca (goodIn_ca (goodIn_r _ [336, 57, 81, 337, 338, 339, 2, 340, 312, 308, 309, 310, 311, 62, 63, 86, 87, 88, 89, 90, 91, 64, 65, 66, 67, 13, 341, 342, 343, 344, 345, 165, 158, 166, 167, 168, 169, 170, 346, 347, 348, 349, 350, 15, 351, 157, 159, 416, 417, 418, 419, 420, 421, 422, 423] (by decide +kernel) (by decide +kernel)) (goodIn_sub (fun _ h => List.mem_append_left _ (List.mem_append_left _ (List.mem_append_right _ h))) (by decide +kernel))) (goodIn_sub (fun _ h => List.mem_append_left _ (List.mem_append_right _ h)) (by decide +kernel))
set_option maxRecDepth 20000 in
theorem gL_law_L_value : GoodIn wsL_law (va_wsS RL 112 yL_value wsL_value) := goodIn_app (goodIn_of _ (by decide +kernel)) ggL_law_L_value
set_option maxRecDepth 20000 in
theorem ggL_law_X4_value : GoodIn wsL_law wsX4_value := goodIn_r _ [355, 45, 72, 322, 323, 5, 324, 356, 357, 358, 359, 46, 325, 326, 327, 328, 329, 330, 360, 361, 362, 363, 364, 365, 366, 367, 321, 331, 332, 333, 424, 425, 426, 427, 428, 429, 430, 431, 432, 433] (by decide +kernel) (by decide +kernel)
set_option maxRecDepth 20000 in
theorem gL_law_X4_value : GoodIn wsL_law (wsV RL 114 RX4 yX4_value wsX4_value) := goodIn_app (goodIn_of _ (by decide +kernel)) ggL_law_X4_value
set_option maxRecDepth 20000 in
theorem ggL_law_L_back : GoodIn wsL_law wsL_back := goodIn_ca (goodIn_ca (goodIn_r _ [370, 57, 81, 371, 372, 373, 2, 374, 312, 308, 309, 310, 311, 62, 63, 86, 87, 88, 89, 90, 91, 64, 65, 66, 67, 13, 341, 342, 343, 344, 345, 165, 158, 166, 167, 168, 169, 170, 346, 347, 348, 349, 350, 15, 351, 157, 159, 375, 184, 185, 416, 417, 418, 419, 420, 421, 422, 423] (by decide +kernel) (by decide +kernel)) (goodIn_sub (fun _ h => List.mem_append_left _ (List.mem_append_left _ (List.mem_append_right _ h))) (by decide +kernel))) (goodIn_sub (fun _ h => List.mem_append_left _ (List.mem_append_right _ h)) (by decide +kernel))
set_option maxRecDepth 20000 in
theorem gL_law_L_back : GoodIn wsL_law (va_wsS RL 115 yL_back wsL_back) := goodIn_app (goodIn_of _ (by decide +kernel)) ggL_law_L_back
set_option maxRecDepth 20000 in
theorem ggL_law_X4_back : GoodIn wsL_law wsX4_back := goodIn_r _ [379, 45, 72, 321, 322, 323, 5, 324, 325, 326, 327, 328, 329, 330, 356, 357, 358, 359, 46, 360, 361, 362, 363, 364, 365, 366, 367, 331, 332, 333, 424, 425, 426, 427, 428, 429, 430, 431, 432, 433] (by decide +kernel) (by decide +kernel)
set_option maxRecDepth 20000 in
theorem gL_law_X4_back : GoodIn wsL_law (wsV RL 117 RX4 yX4_back wsX4_back) := goodIn_app (goodIn_of _ (by decide +kernel)) ggL_law_X4_back
set_option maxRecDepth 20000 in
theorem ggL_law_L_keep : GoodIn wsL_law wsL_keep := goodIn_ca (goodIn_r _ [382, 383, 384, 385, 386, 2, 387, 388, 389, 17, 21, 15, 64, 65, 66, 67, 13, 231, 232, 233, 20, 234, 235, 236, 237, 238, 239, 240, 241, 242, 243, 33, 244, 245, 246, 247, 157, 158, 159, 248, 249, 250, 251, 252, 253, 254, 255, 416, 417, 418, 419, 420, 421, 422, 423, 434] (by decide +kernel) (by decide +kernel)) (goodIn_sub (fun _ h => List.mem_append_right _ h) (by decide +kernel))
set_option maxRecDepth 20000 in
theorem gL_law_L_keep : GoodIn wsL_law (va_wsS RL 118 yL_keep wsL_keep) := goodIn_app (goodIn_of _ (by decide +kernel)) ggL_law_L_keep
set_option maxRecDepth 20000 in
theorem ggL_law_X4_keep : GoodIn wsL_law wsX4_keep := goodIn_r _ [393, 73, 72, 45, 46, 48, 424, 425, 426, 427, 428, 429, 430, 431, 432, 433] (by decide +kernel) (by decide +kernel)
set_option maxRecDepth 20000 in
theorem gL_law_X4_keep : GoodIn wsL_law (wsV RL 121 RX4 yX4_keep wsX4_keep) := goodIn_app (goodIn_of _ (by decide +kernel)) ggL_law_X4_keep
set_option maxRecDepth 20000 in
theorem ggL_law_L_product : GoodIn wsL_law wsL_product := goodIn_ca (goodIn_r _ [396, 57, 397, 398, 399, 2, 400, 312, 308, 309, 310, 311, 62, 63, 351, 157, 158, 159] (by decide +kernel) (by decide +kernel)) (goodIn_sub (fun _ h => List.mem_append_left _ (List.mem_append_left _ (List.mem_append_right _ h))) (by decide +kernel))
set_option maxRecDepth 20000 in
theorem gL_law_L_product : GoodIn wsL_law (va_wsS RL 122 yL_product wsL_product) := goodIn_app (goodIn_of _ (by decide +kernel)) ggL_law_L_product
set_option maxRecDepth 20000 in
theorem ggL_law_X4_product : GoodIn wsL_law wsX4_product := goodIn_r _ [404, 72, 322, 323, 5, 324, 325, 326, 327, 328, 329, 330, 331, 332, 333, 424, 425, 426, 427, 428, 429, 430, 431, 432, 433] (by decide +kernel) (by decide +kernel)
set_option maxRecDepth 20000 in
theorem gL_law_X4_product : GoodIn wsL_law (wsV RL 125 RX4 yX4_product wsX4_product) := goodIn_app (goodIn_of _ (by decide +kernel)) ggL_law_X4_product
set_option maxRecDepth 20000 in
theorem ggL_law_L_root : GoodIn wsL_law wsL_root := goodIn_ca (goodIn_r _ [407, 57, 408, 409, 410, 2, 411, 308, 309, 310, 311, 62, 63, 312, 341, 342, 343, 344, 13, 345, 165, 158, 166, 167, 168, 169, 170, 64, 65, 66, 67, 346, 416, 417, 418, 419, 420, 421, 422, 423] (by decide +kernel) (by decide +kernel)) (goodIn_sub (fun _ h => List.mem_append_left _ (List.mem_append_left _ (List.mem_append_right _ h))) (by decide +kernel))
set_option maxRecDepth 20000 in
theorem gL_law_L_root : GoodIn wsL_law (va_wsS RL 126 yL_root wsL_root) := goodIn_app (goodIn_of _ (by decide +kernel)) ggL_law_L_root
set_option maxRecDepth 20000 in
theorem ggL_law_X4_root : GoodIn wsL_law wsX4_root := goodIn_r _ [415, 72, 45, 322, 323, 5, 324, 331, 332, 333, 360, 361, 362, 363, 364, 325, 326, 327, 328, 329, 330, 365, 366, 367, 321, 424, 425, 426, 427, 428, 429, 430, 431, 432, 433] (by decide +kernel) (by decide +kernel)
set_option maxRecDepth 20000 in
theorem gL_law_X4_root : GoodIn wsL_law (wsV RL 128 RX4 yX4_root wsX4_root) := goodIn_app (goodIn_of _ (by decide +kernel)) ggL_law_X4_root
theorem dL_law_0 : decode cL_law 0 = .ok (.new 8, 3) := by decide +kernel
theorem dL_law_3 : decode cL_law 3 = .ok (.dup, 1) := by decide +kernel
theorem dL_law_4 : decode cL_law 4 = .ok (.invokespecial 65, 3) := by decide +kernel
theorem dL_law_7 : decode cL_law 7 = .ok (.astore_n 1, 1) := by decide +kernel
theorem dL_law_8 : decode cL_law 8 = .ok (.new 66, 3) := by decide +kernel
theorem dL_law_11 : decode cL_law 11 = .ok (.dup, 1) := by decide +kernel
theorem dL_law_12 : decode cL_law 12 = .ok (.invokespecial 68, 3) := by decide +kernel
theorem dL_law_15 : decode cL_law 15 = .ok (.astore_n 2, 1) := by decide +kernel
theorem dL_law_16 : decode cL_law 16 = .ok (.iconst 1, 1) := by decide +kernel
theorem dL_law_17 : decode cL_law 17 = .ok (.newarray .long, 2) := by decide +kernel
theorem dL_law_19 : decode cL_law 19 = .ok (.astore_n 3, 1) := by decide +kernel
theorem dL_law_20 : decode cL_law 20 = .ok (.iconst 0, 1) := by decide +kernel
theorem dL_law_21 : decode cL_law 21 = .ok (.istore 4, 2) := by decide +kernel
theorem dL_law_23 : decode cL_law 23 = .ok (.iload 4, 2) := by decide +kernel
theorem dL_law_25 : decode cL_law 25 = .ok (.aload_n 0, 1) := by decide +kernel
theorem dL_law_26 : decode cL_law 26 = .ok (.arraylength, 1) := by decide +kernel
theorem dL_law_27 : decode cL_law 27 = .ok (.iconst 4, 1) := by decide +kernel
theorem dL_law_28 : decode cL_law 28 = .ok (.isub, 1) := by decide +kernel
theorem dL_law_29 : decode cL_law 29 = .ok (.if_icmp .gt 987, 3) := by decide +kernel
theorem dL_law_32 : decode cL_law 32 = .ok (.aload_n 0, 1) := by decide +kernel
theorem dL_law_33 : decode cL_law 33 = .ok (.iload 4, 2) := by decide +kernel
theorem dL_law_35 : decode cL_law 35 = .ok (.iaload, 1) := by decide +kernel
theorem dL_law_36 : decode cL_law 36 = .ok (.bipush 15, 2) := by decide +kernel
theorem dL_law_38 : decode cL_law 38 = .ok (.iand, 1) := by decide +kernel
theorem dL_law_39 : decode cL_law 39 = .ok (.tableswitch 971 0 15 #[77, 113, 181, 249, 305, 361, 372, 428, 484, 539, 595, 663, 731, 799, 823, 903], 77) := by decide +kernel
theorem dL_law_116 : decode cL_law 116 = .ok (.aload_n 1, 1) := by decide +kernel
theorem dL_law_117 : decode cL_law 117 = .ok (.aload_n 0, 1) := by decide +kernel
theorem dL_law_118 : decode cL_law 118 = .ok (.iload 4, 2) := by decide +kernel
theorem dL_law_120 : decode cL_law 120 = .ok (.iconst 1, 1) := by decide +kernel
theorem dL_law_121 : decode cL_law 121 = .ok (.iadd, 1) := by decide +kernel
theorem dL_law_122 : decode cL_law 122 = .ok (.iaload, 1) := by decide +kernel
theorem dL_law_123 : decode cL_law 123 = .ok (.invokestatic 69, 3) := by decide +kernel
theorem dL_law_126 : decode cL_law 126 = .ok (.istore 5, 2) := by decide +kernel
theorem dL_law_128 : decode cL_law 128 = .ok (.aload_n 2, 1) := by decide +kernel
theorem dL_law_129 : decode cL_law 129 = .ok (.aload_n 0, 1) := by decide +kernel
theorem dL_law_130 : decode cL_law 130 = .ok (.iload 4, 2) := by decide +kernel
theorem dL_law_132 : decode cL_law 132 = .ok (.iconst 1, 1) := by decide +kernel
theorem dL_law_133 : decode cL_law 133 = .ok (.iadd, 1) := by decide +kernel
theorem dL_law_134 : decode cL_law 134 = .ok (.iaload, 1) := by decide +kernel
theorem dL_law_135 : decode cL_law 135 = .ok (.invokevirtual 74, 3) := by decide +kernel
theorem dL_law_138 : decode cL_law 138 = .ok (.aload_n 2, 1) := by decide +kernel
theorem dL_law_139 : decode cL_law 139 = .ok (.invokevirtual 75, 3) := by decide +kernel
theorem dL_law_142 : decode cL_law 142 = .ok (.iload 5, 2) := by decide +kernel
theorem dL_law_144 : decode cL_law 144 = .ok (.if_icmp .eq 5, 3) := by decide +kernel
theorem dL_law_147 : decode cL_law 147 = .ok (.iconst 0, 1) := by decide +kernel
theorem dL_law_148 : decode cL_law 148 = .ok (.ireturn, 1) := by decide +kernel
theorem dL_law_149 : decode cL_law 149 = .ok (.goto 861, 3) := by decide +kernel
theorem dL_law_152 : decode cL_law 152 = .ok (.aload_n 1, 1) := by decide +kernel
theorem dL_law_153 : decode cL_law 153 = .ok (.aload_n 0, 1) := by decide +kernel
theorem dL_law_154 : decode cL_law 154 = .ok (.iload 4, 2) := by decide +kernel
theorem dL_law_156 : decode cL_law 156 = .ok (.iconst 1, 1) := by decide +kernel
theorem dL_law_157 : decode cL_law 157 = .ok (.iadd, 1) := by decide +kernel
theorem dL_law_158 : decode cL_law 158 = .ok (.iaload, 1) := by decide +kernel
theorem dL_law_159 : decode cL_law 159 = .ok (.aload_n 0, 1) := by decide +kernel
theorem dL_law_160 : decode cL_law 160 = .ok (.iload 4, 2) := by decide +kernel
theorem dL_law_162 : decode cL_law 162 = .ok (.iconst 2, 1) := by decide +kernel
theorem dL_law_163 : decode cL_law 163 = .ok (.iadd, 1) := by decide +kernel
theorem dL_law_164 : decode cL_law 164 = .ok (.iaload, 1) := by decide +kernel
theorem dL_law_165 : decode cL_law 165 = .ok (.aload_n 3, 1) := by decide +kernel
theorem dL_law_166 : decode cL_law 166 = .ok (.invokestatic 79, 3) := by decide +kernel
theorem dL_law_169 : decode cL_law 169 = .ok (.istore 5, 2) := by decide +kernel
theorem dL_law_171 : decode cL_law 171 = .ok (.aload_n 2, 1) := by decide +kernel
theorem dL_law_172 : decode cL_law 172 = .ok (.aload_n 0, 1) := by decide +kernel
theorem dL_law_173 : decode cL_law 173 = .ok (.iload 4, 2) := by decide +kernel
theorem dL_law_175 : decode cL_law 175 = .ok (.iconst 1, 1) := by decide +kernel
theorem dL_law_176 : decode cL_law 176 = .ok (.iadd, 1) := by decide +kernel
theorem dL_law_177 : decode cL_law 177 = .ok (.iaload, 1) := by decide +kernel
theorem dL_law_178 : decode cL_law 178 = .ok (.aload_n 0, 1) := by decide +kernel
theorem dL_law_179 : decode cL_law 179 = .ok (.iload 4, 2) := by decide +kernel
theorem dL_law_181 : decode cL_law 181 = .ok (.iconst 2, 1) := by decide +kernel
theorem dL_law_182 : decode cL_law 182 = .ok (.iadd, 1) := by decide +kernel
theorem dL_law_183 : decode cL_law 183 = .ok (.iaload, 1) := by decide +kernel
theorem dL_law_184 : decode cL_law 184 = .ok (.invokevirtual 82, 3) := by decide +kernel
theorem dL_law_187 : decode cL_law 187 = .ok (.istore 6, 2) := by decide +kernel
theorem dL_law_189 : decode cL_law 189 = .ok (.aload_n 2, 1) := by decide +kernel
theorem dL_law_190 : decode cL_law 190 = .ok (.invokevirtual 75, 3) := by decide +kernel
theorem dL_law_193 : decode cL_law 193 = .ok (.iload 5, 2) := by decide +kernel
theorem dL_law_195 : decode cL_law 195 = .ok (.if_icmp .eq 5, 3) := by decide +kernel
theorem dL_law_198 : decode cL_law 198 = .ok (.iconst 0, 1) := by decide +kernel
theorem dL_law_199 : decode cL_law 199 = .ok (.ireturn, 1) := by decide +kernel
theorem dL_law_200 : decode cL_law 200 = .ok (.iload 5, 2) := by decide +kernel
theorem dL_law_202 : decode cL_law 202 = .ok (.ifCond .ne 15, 3) := by decide +kernel
theorem dL_law_205 : decode cL_law 205 = .ok (.aload_n 3, 1) := by decide +kernel
theorem dL_law_206 : decode cL_law 206 = .ok (.iconst 0, 1) := by decide +kernel
theorem dL_law_207 : decode cL_law 207 = .ok (.laload, 1) := by decide +kernel
theorem dL_law_208 : decode cL_law 208 = .ok (.iload 6, 2) := by decide +kernel
theorem dL_law_210 : decode cL_law 210 = .ok (.i2l, 1) := by decide +kernel
theorem dL_law_211 : decode cL_law 211 = .ok (.lcmp, 1) := by decide +kernel
theorem dL_law_212 : decode cL_law 212 = .ok (.ifCond .eq 5, 3) := by decide +kernel
theorem dL_law_215 : decode cL_law 215 = .ok (.iconst 0, 1) := by decide +kernel
theorem dL_law_216 : decode cL_law 216 = .ok (.ireturn, 1) := by decide +kernel
theorem dL_law_217 : decode cL_law 217 = .ok (.goto 793, 3) := by decide +kernel
theorem dL_law_220 : decode cL_law 220 = .ok (.aload_n 1, 1) := by decide +kernel
theorem dL_law_221 : decode cL_law 221 = .ok (.aload_n 0, 1) := by decide +kernel
theorem dL_law_222 : decode cL_law 222 = .ok (.iload 4, 2) := by decide +kernel
theorem dL_law_224 : decode cL_law 224 = .ok (.iconst 1, 1) := by decide +kernel
theorem dL_law_225 : decode cL_law 225 = .ok (.iadd, 1) := by decide +kernel
theorem dL_law_226 : decode cL_law 226 = .ok (.iaload, 1) := by decide +kernel
theorem dL_law_227 : decode cL_law 227 = .ok (.aload_n 0, 1) := by decide +kernel
theorem dL_law_228 : decode cL_law 228 = .ok (.iload 4, 2) := by decide +kernel
theorem dL_law_230 : decode cL_law 230 = .ok (.iconst 2, 1) := by decide +kernel
theorem dL_law_231 : decode cL_law 231 = .ok (.iadd, 1) := by decide +kernel
theorem dL_law_232 : decode cL_law 232 = .ok (.iaload, 1) := by decide +kernel
theorem dL_law_233 : decode cL_law 233 = .ok (.aload_n 3, 1) := by decide +kernel
theorem dL_law_234 : decode cL_law 234 = .ok (.invokestatic 83, 3) := by decide +kernel
theorem dL_law_237 : decode cL_law 237 = .ok (.istore 5, 2) := by decide +kernel
theorem dL_law_239 : decode cL_law 239 = .ok (.aload_n 2, 1) := by decide +kernel
theorem dL_law_240 : decode cL_law 240 = .ok (.aload_n 0, 1) := by decide +kernel
theorem dL_law_241 : decode cL_law 241 = .ok (.iload 4, 2) := by decide +kernel
theorem dL_law_243 : decode cL_law 243 = .ok (.iconst 1, 1) := by decide +kernel
theorem dL_law_244 : decode cL_law 244 = .ok (.iadd, 1) := by decide +kernel
theorem dL_law_245 : decode cL_law 245 = .ok (.iaload, 1) := by decide +kernel
theorem dL_law_246 : decode cL_law 246 = .ok (.aload_n 0, 1) := by decide +kernel
theorem dL_law_247 : decode cL_law 247 = .ok (.iload 4, 2) := by decide +kernel
theorem dL_law_249 : decode cL_law 249 = .ok (.iconst 2, 1) := by decide +kernel
theorem dL_law_250 : decode cL_law 250 = .ok (.iadd, 1) := by decide +kernel
theorem dL_law_251 : decode cL_law 251 = .ok (.iaload, 1) := by decide +kernel
theorem dL_law_252 : decode cL_law 252 = .ok (.invokevirtual 85, 3) := by decide +kernel
theorem dL_law_255 : decode cL_law 255 = .ok (.istore 6, 2) := by decide +kernel
theorem dL_law_257 : decode cL_law 257 = .ok (.aload_n 2, 1) := by decide +kernel
theorem dL_law_258 : decode cL_law 258 = .ok (.invokevirtual 75, 3) := by decide +kernel
theorem dL_law_261 : decode cL_law 261 = .ok (.iload 5, 2) := by decide +kernel
theorem dL_law_263 : decode cL_law 263 = .ok (.if_icmp .eq 5, 3) := by decide +kernel
theorem dL_law_266 : decode cL_law 266 = .ok (.iconst 0, 1) := by decide +kernel
theorem dL_law_267 : decode cL_law 267 = .ok (.ireturn, 1) := by decide +kernel
theorem dL_law_268 : decode cL_law 268 = .ok (.iload 5, 2) := by decide +kernel
theorem dL_law_270 : decode cL_law 270 = .ok (.ifCond .ne 15, 3) := by decide +kernel
theorem dL_law_273 : decode cL_law 273 = .ok (.aload_n 3, 1) := by decide +kernel
theorem dL_law_274 : decode cL_law 274 = .ok (.iconst 0, 1) := by decide +kernel
theorem dL_law_275 : decode cL_law 275 = .ok (.laload, 1) := by decide +kernel
theorem dL_law_276 : decode cL_law 276 = .ok (.iload 6, 2) := by decide +kernel
theorem dL_law_278 : decode cL_law 278 = .ok (.i2l, 1) := by decide +kernel
theorem dL_law_279 : decode cL_law 279 = .ok (.lcmp, 1) := by decide +kernel
theorem dL_law_280 : decode cL_law 280 = .ok (.ifCond .eq 5, 3) := by decide +kernel
theorem dL_law_283 : decode cL_law 283 = .ok (.iconst 0, 1) := by decide +kernel
theorem dL_law_284 : decode cL_law 284 = .ok (.ireturn, 1) := by decide +kernel
theorem dL_law_285 : decode cL_law 285 = .ok (.goto 725, 3) := by decide +kernel
theorem dL_law_288 : decode cL_law 288 = .ok (.aload_n 1, 1) := by decide +kernel
theorem dL_law_289 : decode cL_law 289 = .ok (.aload_n 0, 1) := by decide +kernel
theorem dL_law_290 : decode cL_law 290 = .ok (.iload 4, 2) := by decide +kernel
theorem dL_law_292 : decode cL_law 292 = .ok (.iconst 1, 1) := by decide +kernel
theorem dL_law_293 : decode cL_law 293 = .ok (.iadd, 1) := by decide +kernel
theorem dL_law_294 : decode cL_law 294 = .ok (.iaload, 1) := by decide +kernel
theorem dL_law_295 : decode cL_law 295 = .ok (.aload_n 3, 1) := by decide +kernel
theorem dL_law_296 : decode cL_law 296 = .ok (.invokestatic 86, 3) := by decide +kernel
theorem dL_law_299 : decode cL_law 299 = .ok (.istore 5, 2) := by decide +kernel
theorem dL_law_301 : decode cL_law 301 = .ok (.aload_n 2, 1) := by decide +kernel
theorem dL_law_302 : decode cL_law 302 = .ok (.aload_n 0, 1) := by decide +kernel
theorem dL_law_303 : decode cL_law 303 = .ok (.iload 4, 2) := by decide +kernel
theorem dL_law_305 : decode cL_law 305 = .ok (.iconst 1, 1) := by decide +kernel
theorem dL_law_306 : decode cL_law 306 = .ok (.iadd, 1) := by decide +kernel
theorem dL_law_307 : decode cL_law 307 = .ok (.iaload, 1) := by decide +kernel
theorem dL_law_308 : decode cL_law 308 = .ok (.invokevirtual 89, 3) := by decide +kernel
theorem dL_law_311 : decode cL_law 311 = .ok (.istore 6, 2) := by decide +kernel
theorem dL_law_313 : decode cL_law 313 = .ok (.aload_n 2, 1) := by decide +kernel
theorem dL_law_314 : decode cL_law 314 = .ok (.invokevirtual 75, 3) := by decide +kernel
theorem dL_law_317 : decode cL_law 317 = .ok (.iload 5, 2) := by decide +kernel
theorem dL_law_319 : decode cL_law 319 = .ok (.if_icmp .eq 5, 3) := by decide +kernel
theorem dL_law_322 : decode cL_law 322 = .ok (.iconst 0, 1) := by decide +kernel
theorem dL_law_323 : decode cL_law 323 = .ok (.ireturn, 1) := by decide +kernel
theorem dL_law_324 : decode cL_law 324 = .ok (.iload 5, 2) := by decide +kernel
theorem dL_law_326 : decode cL_law 326 = .ok (.ifCond .ne 15, 3) := by decide +kernel
theorem dL_law_329 : decode cL_law 329 = .ok (.aload_n 3, 1) := by decide +kernel
theorem dL_law_330 : decode cL_law 330 = .ok (.iconst 0, 1) := by decide +kernel
theorem dL_law_331 : decode cL_law 331 = .ok (.laload, 1) := by decide +kernel
theorem dL_law_332 : decode cL_law 332 = .ok (.iload 6, 2) := by decide +kernel
theorem dL_law_334 : decode cL_law 334 = .ok (.i2l, 1) := by decide +kernel
theorem dL_law_335 : decode cL_law 335 = .ok (.lcmp, 1) := by decide +kernel
theorem dL_law_336 : decode cL_law 336 = .ok (.ifCond .eq 5, 3) := by decide +kernel
theorem dL_law_339 : decode cL_law 339 = .ok (.iconst 0, 1) := by decide +kernel
theorem dL_law_340 : decode cL_law 340 = .ok (.ireturn, 1) := by decide +kernel
theorem dL_law_341 : decode cL_law 341 = .ok (.goto 669, 3) := by decide +kernel
theorem dL_law_344 : decode cL_law 344 = .ok (.aload_n 1, 1) := by decide +kernel
theorem dL_law_345 : decode cL_law 345 = .ok (.aload_n 0, 1) := by decide +kernel
theorem dL_law_346 : decode cL_law 346 = .ok (.iload 4, 2) := by decide +kernel
theorem dL_law_348 : decode cL_law 348 = .ok (.iconst 1, 1) := by decide +kernel
theorem dL_law_349 : decode cL_law 349 = .ok (.iadd, 1) := by decide +kernel
theorem dL_law_350 : decode cL_law 350 = .ok (.iaload, 1) := by decide +kernel
theorem dL_law_351 : decode cL_law 351 = .ok (.aload_n 3, 1) := by decide +kernel
theorem dL_law_352 : decode cL_law 352 = .ok (.invokestatic 90, 3) := by decide +kernel
theorem dL_law_355 : decode cL_law 355 = .ok (.istore 5, 2) := by decide +kernel
theorem dL_law_357 : decode cL_law 357 = .ok (.aload_n 2, 1) := by decide +kernel
theorem dL_law_358 : decode cL_law 358 = .ok (.aload_n 0, 1) := by decide +kernel
theorem dL_law_359 : decode cL_law 359 = .ok (.iload 4, 2) := by decide +kernel
theorem dL_law_361 : decode cL_law 361 = .ok (.iconst 1, 1) := by decide +kernel
theorem dL_law_362 : decode cL_law 362 = .ok (.iadd, 1) := by decide +kernel
theorem dL_law_363 : decode cL_law 363 = .ok (.iaload, 1) := by decide +kernel
theorem dL_law_364 : decode cL_law 364 = .ok (.invokevirtual 92, 3) := by decide +kernel
theorem dL_law_367 : decode cL_law 367 = .ok (.istore 6, 2) := by decide +kernel
theorem dL_law_369 : decode cL_law 369 = .ok (.aload_n 2, 1) := by decide +kernel
theorem dL_law_370 : decode cL_law 370 = .ok (.invokevirtual 75, 3) := by decide +kernel
theorem dL_law_373 : decode cL_law 373 = .ok (.iload 5, 2) := by decide +kernel
theorem dL_law_375 : decode cL_law 375 = .ok (.if_icmp .eq 5, 3) := by decide +kernel
theorem dL_law_378 : decode cL_law 378 = .ok (.iconst 0, 1) := by decide +kernel
theorem dL_law_379 : decode cL_law 379 = .ok (.ireturn, 1) := by decide +kernel
theorem dL_law_380 : decode cL_law 380 = .ok (.iload 5, 2) := by decide +kernel
theorem dL_law_382 : decode cL_law 382 = .ok (.ifCond .ne 15, 3) := by decide +kernel
theorem dL_law_385 : decode cL_law 385 = .ok (.aload_n 3, 1) := by decide +kernel
theorem dL_law_386 : decode cL_law 386 = .ok (.iconst 0, 1) := by decide +kernel
theorem dL_law_387 : decode cL_law 387 = .ok (.laload, 1) := by decide +kernel
theorem dL_law_388 : decode cL_law 388 = .ok (.iload 6, 2) := by decide +kernel
theorem dL_law_390 : decode cL_law 390 = .ok (.i2l, 1) := by decide +kernel
theorem dL_law_391 : decode cL_law 391 = .ok (.lcmp, 1) := by decide +kernel
theorem dL_law_392 : decode cL_law 392 = .ok (.ifCond .eq 5, 3) := by decide +kernel
theorem dL_law_395 : decode cL_law 395 = .ok (.iconst 0, 1) := by decide +kernel
theorem dL_law_396 : decode cL_law 396 = .ok (.ireturn, 1) := by decide +kernel
theorem dL_law_397 : decode cL_law 397 = .ok (.goto 613, 3) := by decide +kernel
theorem dL_law_400 : decode cL_law 400 = .ok (.aload_n 1, 1) := by decide +kernel
theorem dL_law_401 : decode cL_law 401 = .ok (.invokevirtual 93, 3) := by decide +kernel
theorem dL_law_404 : decode cL_law 404 = .ok (.aload_n 2, 1) := by decide +kernel
theorem dL_law_405 : decode cL_law 405 = .ok (.invokevirtual 96, 3) := by decide +kernel
theorem dL_law_408 : decode cL_law 408 = .ok (.goto 602, 3) := by decide +kernel
theorem dL_law_411 : decode cL_law 411 = .ok (.aload_n 1, 1) := by decide +kernel
theorem dL_law_412 : decode cL_law 412 = .ok (.aload_n 0, 1) := by decide +kernel
theorem dL_law_413 : decode cL_law 413 = .ok (.iload 4, 2) := by decide +kernel
theorem dL_law_415 : decode cL_law 415 = .ok (.iconst 1, 1) := by decide +kernel
theorem dL_law_416 : decode cL_law 416 = .ok (.iadd, 1) := by decide +kernel
theorem dL_law_417 : decode cL_law 417 = .ok (.iaload, 1) := by decide +kernel
theorem dL_law_418 : decode cL_law 418 = .ok (.aload_n 3, 1) := by decide +kernel
theorem dL_law_419 : decode cL_law 419 = .ok (.invokestatic 97, 3) := by decide +kernel
theorem dL_law_422 : decode cL_law 422 = .ok (.istore 5, 2) := by decide +kernel
theorem dL_law_424 : decode cL_law 424 = .ok (.aload_n 2, 1) := by decide +kernel
theorem dL_law_425 : decode cL_law 425 = .ok (.aload_n 0, 1) := by decide +kernel
theorem dL_law_426 : decode cL_law 426 = .ok (.iload 4, 2) := by decide +kernel
theorem dL_law_428 : decode cL_law 428 = .ok (.iconst 1, 1) := by decide +kernel
theorem dL_law_429 : decode cL_law 429 = .ok (.iadd, 1) := by decide +kernel
theorem dL_law_430 : decode cL_law 430 = .ok (.iaload, 1) := by decide +kernel
theorem dL_law_431 : decode cL_law 431 = .ok (.invokevirtual 99, 3) := by decide +kernel
theorem dL_law_434 : decode cL_law 434 = .ok (.istore 6, 2) := by decide +kernel
theorem dL_law_436 : decode cL_law 436 = .ok (.aload_n 2, 1) := by decide +kernel
theorem dL_law_437 : decode cL_law 437 = .ok (.invokevirtual 75, 3) := by decide +kernel
theorem dL_law_440 : decode cL_law 440 = .ok (.iload 5, 2) := by decide +kernel
theorem dL_law_442 : decode cL_law 442 = .ok (.if_icmp .eq 5, 3) := by decide +kernel
theorem dL_law_445 : decode cL_law 445 = .ok (.iconst 0, 1) := by decide +kernel
theorem dL_law_446 : decode cL_law 446 = .ok (.ireturn, 1) := by decide +kernel
theorem dL_law_447 : decode cL_law 447 = .ok (.iload 5, 2) := by decide +kernel
theorem dL_law_449 : decode cL_law 449 = .ok (.ifCond .ne 15, 3) := by decide +kernel
theorem dL_law_452 : decode cL_law 452 = .ok (.aload_n 3, 1) := by decide +kernel
theorem dL_law_453 : decode cL_law 453 = .ok (.iconst 0, 1) := by decide +kernel
theorem dL_law_454 : decode cL_law 454 = .ok (.laload, 1) := by decide +kernel
theorem dL_law_455 : decode cL_law 455 = .ok (.iload 6, 2) := by decide +kernel
theorem dL_law_457 : decode cL_law 457 = .ok (.i2l, 1) := by decide +kernel
theorem dL_law_458 : decode cL_law 458 = .ok (.lcmp, 1) := by decide +kernel
theorem dL_law_459 : decode cL_law 459 = .ok (.ifCond .eq 5, 3) := by decide +kernel
theorem dL_law_462 : decode cL_law 462 = .ok (.iconst 0, 1) := by decide +kernel
theorem dL_law_463 : decode cL_law 463 = .ok (.ireturn, 1) := by decide +kernel
theorem dL_law_464 : decode cL_law 464 = .ok (.goto 546, 3) := by decide +kernel
theorem dL_law_467 : decode cL_law 467 = .ok (.aload_n 1, 1) := by decide +kernel
theorem dL_law_468 : decode cL_law 468 = .ok (.aload_n 0, 1) := by decide +kernel
theorem dL_law_469 : decode cL_law 469 = .ok (.iload 4, 2) := by decide +kernel
theorem dL_law_471 : decode cL_law 471 = .ok (.iconst 1, 1) := by decide +kernel
theorem dL_law_472 : decode cL_law 472 = .ok (.iadd, 1) := by decide +kernel
theorem dL_law_473 : decode cL_law 473 = .ok (.iaload, 1) := by decide +kernel
theorem dL_law_474 : decode cL_law 474 = .ok (.aload_n 3, 1) := by decide +kernel
theorem dL_law_475 : decode cL_law 475 = .ok (.invokestatic 100, 3) := by decide +kernel
theorem dL_law_478 : decode cL_law 478 = .ok (.istore 5, 2) := by decide +kernel
theorem dL_law_480 : decode cL_law 480 = .ok (.aload_n 2, 1) := by decide +kernel
theorem dL_law_481 : decode cL_law 481 = .ok (.aload_n 0, 1) := by decide +kernel
theorem dL_law_482 : decode cL_law 482 = .ok (.iload 4, 2) := by decide +kernel
theorem dL_law_484 : decode cL_law 484 = .ok (.iconst 1, 1) := by decide +kernel
theorem dL_law_485 : decode cL_law 485 = .ok (.iadd, 1) := by decide +kernel
theorem dL_law_486 : decode cL_law 486 = .ok (.iaload, 1) := by decide +kernel
theorem dL_law_487 : decode cL_law 487 = .ok (.invokevirtual 102, 3) := by decide +kernel
theorem dL_law_490 : decode cL_law 490 = .ok (.istore 6, 2) := by decide +kernel
theorem dL_law_492 : decode cL_law 492 = .ok (.aload_n 2, 1) := by decide +kernel
theorem dL_law_493 : decode cL_law 493 = .ok (.invokevirtual 75, 3) := by decide +kernel
theorem dL_law_496 : decode cL_law 496 = .ok (.iload 5, 2) := by decide +kernel
theorem dL_law_498 : decode cL_law 498 = .ok (.if_icmp .eq 5, 3) := by decide +kernel
theorem dL_law_501 : decode cL_law 501 = .ok (.iconst 0, 1) := by decide +kernel
theorem dL_law_502 : decode cL_law 502 = .ok (.ireturn, 1) := by decide +kernel
theorem dL_law_503 : decode cL_law 503 = .ok (.iload 5, 2) := by decide +kernel
theorem dL_law_505 : decode cL_law 505 = .ok (.ifCond .ne 15, 3) := by decide +kernel
theorem dL_law_508 : decode cL_law 508 = .ok (.aload_n 3, 1) := by decide +kernel
theorem dL_law_509 : decode cL_law 509 = .ok (.iconst 0, 1) := by decide +kernel
theorem dL_law_510 : decode cL_law 510 = .ok (.laload, 1) := by decide +kernel
theorem dL_law_511 : decode cL_law 511 = .ok (.iload 6, 2) := by decide +kernel
theorem dL_law_513 : decode cL_law 513 = .ok (.i2l, 1) := by decide +kernel
theorem dL_law_514 : decode cL_law 514 = .ok (.lcmp, 1) := by decide +kernel
theorem dL_law_515 : decode cL_law 515 = .ok (.ifCond .eq 5, 3) := by decide +kernel
theorem dL_law_518 : decode cL_law 518 = .ok (.iconst 0, 1) := by decide +kernel
theorem dL_law_519 : decode cL_law 519 = .ok (.ireturn, 1) := by decide +kernel
theorem dL_law_520 : decode cL_law 520 = .ok (.goto 490, 3) := by decide +kernel
theorem dL_law_523 : decode cL_law 523 = .ok (.aload_n 1, 1) := by decide +kernel
theorem dL_law_524 : decode cL_law 524 = .ok (.aload_n 0, 1) := by decide +kernel
theorem dL_law_525 : decode cL_law 525 = .ok (.iload 4, 2) := by decide +kernel
theorem dL_law_527 : decode cL_law 527 = .ok (.iconst 1, 1) := by decide +kernel
theorem dL_law_528 : decode cL_law 528 = .ok (.iadd, 1) := by decide +kernel
theorem dL_law_529 : decode cL_law 529 = .ok (.iaload, 1) := by decide +kernel
theorem dL_law_530 : decode cL_law 530 = .ok (.aload_n 3, 1) := by decide +kernel
theorem dL_law_531 : decode cL_law 531 = .ok (.invokestatic 103, 3) := by decide +kernel
theorem dL_law_534 : decode cL_law 534 = .ok (.istore 5, 2) := by decide +kernel
theorem dL_law_536 : decode cL_law 536 = .ok (.aload_n 2, 1) := by decide +kernel
theorem dL_law_537 : decode cL_law 537 = .ok (.aload_n 0, 1) := by decide +kernel
theorem dL_law_538 : decode cL_law 538 = .ok (.iload 4, 2) := by decide +kernel
theorem dL_law_540 : decode cL_law 540 = .ok (.iconst 1, 1) := by decide +kernel
theorem dL_law_541 : decode cL_law 541 = .ok (.iadd, 1) := by decide +kernel
theorem dL_law_542 : decode cL_law 542 = .ok (.iaload, 1) := by decide +kernel
theorem dL_law_543 : decode cL_law 543 = .ok (.invokevirtual 105, 3) := by decide +kernel
theorem dL_law_546 : decode cL_law 546 = .ok (.lstore 6, 2) := by decide +kernel
theorem dL_law_548 : decode cL_law 548 = .ok (.aload_n 2, 1) := by decide +kernel
theorem dL_law_549 : decode cL_law 549 = .ok (.invokevirtual 75, 3) := by decide +kernel
theorem dL_law_552 : decode cL_law 552 = .ok (.iload 5, 2) := by decide +kernel
theorem dL_law_554 : decode cL_law 554 = .ok (.if_icmp .eq 5, 3) := by decide +kernel
theorem dL_law_557 : decode cL_law 557 = .ok (.iconst 0, 1) := by decide +kernel
theorem dL_law_558 : decode cL_law 558 = .ok (.ireturn, 1) := by decide +kernel
theorem dL_law_559 : decode cL_law 559 = .ok (.iload 5, 2) := by decide +kernel
theorem dL_law_561 : decode cL_law 561 = .ok (.ifCond .ne 14, 3) := by decide +kernel
theorem dL_law_564 : decode cL_law 564 = .ok (.aload_n 3, 1) := by decide +kernel
theorem dL_law_565 : decode cL_law 565 = .ok (.iconst 0, 1) := by decide +kernel
theorem dL_law_566 : decode cL_law 566 = .ok (.laload, 1) := by decide +kernel
theorem dL_law_567 : decode cL_law 567 = .ok (.lload 6, 2) := by decide +kernel
theorem dL_law_569 : decode cL_law 569 = .ok (.lcmp, 1) := by decide +kernel
theorem dL_law_570 : decode cL_law 570 = .ok (.ifCond .eq 5, 3) := by decide +kernel
theorem dL_law_573 : decode cL_law 573 = .ok (.iconst 0, 1) := by decide +kernel
theorem dL_law_574 : decode cL_law 574 = .ok (.ireturn, 1) := by decide +kernel
theorem dL_law_575 : decode cL_law 575 = .ok (.goto 435, 3) := by decide +kernel
theorem dL_law_578 : decode cL_law 578 = .ok (.aload_n 1, 1) := by decide +kernel
theorem dL_law_579 : decode cL_law 579 = .ok (.aload_n 0, 1) := by decide +kernel
theorem dL_law_580 : decode cL_law 580 = .ok (.iload 4, 2) := by decide +kernel
theorem dL_law_582 : decode cL_law 582 = .ok (.iconst 1, 1) := by decide +kernel
theorem dL_law_583 : decode cL_law 583 = .ok (.iadd, 1) := by decide +kernel
theorem dL_law_584 : decode cL_law 584 = .ok (.iaload, 1) := by decide +kernel
theorem dL_law_585 : decode cL_law 585 = .ok (.aload_n 3, 1) := by decide +kernel
theorem dL_law_586 : decode cL_law 586 = .ok (.invokestatic 106, 3) := by decide +kernel
theorem dL_law_589 : decode cL_law 589 = .ok (.istore 5, 2) := by decide +kernel
theorem dL_law_591 : decode cL_law 591 = .ok (.aload_n 2, 1) := by decide +kernel
theorem dL_law_592 : decode cL_law 592 = .ok (.aload_n 0, 1) := by decide +kernel
theorem dL_law_593 : decode cL_law 593 = .ok (.iload 4, 2) := by decide +kernel
theorem dL_law_595 : decode cL_law 595 = .ok (.iconst 1, 1) := by decide +kernel
theorem dL_law_596 : decode cL_law 596 = .ok (.iadd, 1) := by decide +kernel
theorem dL_law_597 : decode cL_law 597 = .ok (.iaload, 1) := by decide +kernel
theorem dL_law_598 : decode cL_law 598 = .ok (.invokevirtual 108, 3) := by decide +kernel
theorem dL_law_601 : decode cL_law 601 = .ok (.istore 6, 2) := by decide +kernel
theorem dL_law_603 : decode cL_law 603 = .ok (.aload_n 2, 1) := by decide +kernel
theorem dL_law_604 : decode cL_law 604 = .ok (.invokevirtual 75, 3) := by decide +kernel
theorem dL_law_607 : decode cL_law 607 = .ok (.iload 5, 2) := by decide +kernel
theorem dL_law_609 : decode cL_law 609 = .ok (.if_icmp .eq 5, 3) := by decide +kernel
theorem dL_law_612 : decode cL_law 612 = .ok (.iconst 0, 1) := by decide +kernel
theorem dL_law_613 : decode cL_law 613 = .ok (.ireturn, 1) := by decide +kernel
theorem dL_law_614 : decode cL_law 614 = .ok (.iload 5, 2) := by decide +kernel
theorem dL_law_616 : decode cL_law 616 = .ok (.ifCond .ne 15, 3) := by decide +kernel
theorem dL_law_619 : decode cL_law 619 = .ok (.aload_n 3, 1) := by decide +kernel
theorem dL_law_620 : decode cL_law 620 = .ok (.iconst 0, 1) := by decide +kernel
theorem dL_law_621 : decode cL_law 621 = .ok (.laload, 1) := by decide +kernel
theorem dL_law_622 : decode cL_law 622 = .ok (.iload 6, 2) := by decide +kernel
theorem dL_law_624 : decode cL_law 624 = .ok (.i2l, 1) := by decide +kernel
theorem dL_law_625 : decode cL_law 625 = .ok (.lcmp, 1) := by decide +kernel
theorem dL_law_626 : decode cL_law 626 = .ok (.ifCond .eq 5, 3) := by decide +kernel
theorem dL_law_629 : decode cL_law 629 = .ok (.iconst 0, 1) := by decide +kernel
theorem dL_law_630 : decode cL_law 630 = .ok (.ireturn, 1) := by decide +kernel
theorem dL_law_631 : decode cL_law 631 = .ok (.goto 379, 3) := by decide +kernel
theorem dL_law_634 : decode cL_law 634 = .ok (.aload_n 1, 1) := by decide +kernel
theorem dL_law_635 : decode cL_law 635 = .ok (.aload_n 0, 1) := by decide +kernel
theorem dL_law_636 : decode cL_law 636 = .ok (.iload 4, 2) := by decide +kernel
theorem dL_law_638 : decode cL_law 638 = .ok (.iconst 1, 1) := by decide +kernel
theorem dL_law_639 : decode cL_law 639 = .ok (.iadd, 1) := by decide +kernel
theorem dL_law_640 : decode cL_law 640 = .ok (.iaload, 1) := by decide +kernel
theorem dL_law_641 : decode cL_law 641 = .ok (.aload_n 0, 1) := by decide +kernel
theorem dL_law_642 : decode cL_law 642 = .ok (.iload 4, 2) := by decide +kernel
theorem dL_law_644 : decode cL_law 644 = .ok (.iconst 2, 1) := by decide +kernel
theorem dL_law_645 : decode cL_law 645 = .ok (.iadd, 1) := by decide +kernel
theorem dL_law_646 : decode cL_law 646 = .ok (.iaload, 1) := by decide +kernel
theorem dL_law_647 : decode cL_law 647 = .ok (.aload_n 3, 1) := by decide +kernel
theorem dL_law_648 : decode cL_law 648 = .ok (.invokestatic 109, 3) := by decide +kernel
theorem dL_law_651 : decode cL_law 651 = .ok (.istore 5, 2) := by decide +kernel
theorem dL_law_653 : decode cL_law 653 = .ok (.aload_n 2, 1) := by decide +kernel
theorem dL_law_654 : decode cL_law 654 = .ok (.aload_n 0, 1) := by decide +kernel
theorem dL_law_655 : decode cL_law 655 = .ok (.iload 4, 2) := by decide +kernel
theorem dL_law_657 : decode cL_law 657 = .ok (.iconst 1, 1) := by decide +kernel
theorem dL_law_658 : decode cL_law 658 = .ok (.iadd, 1) := by decide +kernel
theorem dL_law_659 : decode cL_law 659 = .ok (.iaload, 1) := by decide +kernel
theorem dL_law_660 : decode cL_law 660 = .ok (.aload_n 0, 1) := by decide +kernel
theorem dL_law_661 : decode cL_law 661 = .ok (.iload 4, 2) := by decide +kernel
theorem dL_law_663 : decode cL_law 663 = .ok (.iconst 2, 1) := by decide +kernel
theorem dL_law_664 : decode cL_law 664 = .ok (.iadd, 1) := by decide +kernel
theorem dL_law_665 : decode cL_law 665 = .ok (.iaload, 1) := by decide +kernel
theorem dL_law_666 : decode cL_law 666 = .ok (.invokevirtual 111, 3) := by decide +kernel
theorem dL_law_669 : decode cL_law 669 = .ok (.istore 6, 2) := by decide +kernel
theorem dL_law_671 : decode cL_law 671 = .ok (.aload_n 2, 1) := by decide +kernel
theorem dL_law_672 : decode cL_law 672 = .ok (.invokevirtual 75, 3) := by decide +kernel
theorem dL_law_675 : decode cL_law 675 = .ok (.iload 5, 2) := by decide +kernel
theorem dL_law_677 : decode cL_law 677 = .ok (.if_icmp .eq 5, 3) := by decide +kernel
theorem dL_law_680 : decode cL_law 680 = .ok (.iconst 0, 1) := by decide +kernel
theorem dL_law_681 : decode cL_law 681 = .ok (.ireturn, 1) := by decide +kernel
theorem dL_law_682 : decode cL_law 682 = .ok (.iload 5, 2) := by decide +kernel
theorem dL_law_684 : decode cL_law 684 = .ok (.ifCond .ne 15, 3) := by decide +kernel
theorem dL_law_687 : decode cL_law 687 = .ok (.aload_n 3, 1) := by decide +kernel
theorem dL_law_688 : decode cL_law 688 = .ok (.iconst 0, 1) := by decide +kernel
theorem dL_law_689 : decode cL_law 689 = .ok (.laload, 1) := by decide +kernel
theorem dL_law_690 : decode cL_law 690 = .ok (.iload 6, 2) := by decide +kernel
theorem dL_law_692 : decode cL_law 692 = .ok (.i2l, 1) := by decide +kernel
theorem dL_law_693 : decode cL_law 693 = .ok (.lcmp, 1) := by decide +kernel
theorem dL_law_694 : decode cL_law 694 = .ok (.ifCond .eq 5, 3) := by decide +kernel
theorem dL_law_697 : decode cL_law 697 = .ok (.iconst 0, 1) := by decide +kernel
theorem dL_law_698 : decode cL_law 698 = .ok (.ireturn, 1) := by decide +kernel
theorem dL_law_699 : decode cL_law 699 = .ok (.goto 311, 3) := by decide +kernel
theorem dL_law_702 : decode cL_law 702 = .ok (.aload_n 1, 1) := by decide +kernel
theorem dL_law_703 : decode cL_law 703 = .ok (.aload_n 0, 1) := by decide +kernel
theorem dL_law_704 : decode cL_law 704 = .ok (.iload 4, 2) := by decide +kernel
theorem dL_law_706 : decode cL_law 706 = .ok (.iconst 1, 1) := by decide +kernel
theorem dL_law_707 : decode cL_law 707 = .ok (.iadd, 1) := by decide +kernel
theorem dL_law_708 : decode cL_law 708 = .ok (.iaload, 1) := by decide +kernel
theorem dL_law_709 : decode cL_law 709 = .ok (.aload_n 0, 1) := by decide +kernel
theorem dL_law_710 : decode cL_law 710 = .ok (.iload 4, 2) := by decide +kernel
theorem dL_law_712 : decode cL_law 712 = .ok (.iconst 2, 1) := by decide +kernel
theorem dL_law_713 : decode cL_law 713 = .ok (.iadd, 1) := by decide +kernel
theorem dL_law_714 : decode cL_law 714 = .ok (.iaload, 1) := by decide +kernel
theorem dL_law_715 : decode cL_law 715 = .ok (.aload_n 3, 1) := by decide +kernel
theorem dL_law_716 : decode cL_law 716 = .ok (.invokestatic 112, 3) := by decide +kernel
theorem dL_law_719 : decode cL_law 719 = .ok (.istore 5, 2) := by decide +kernel
theorem dL_law_721 : decode cL_law 721 = .ok (.aload_n 2, 1) := by decide +kernel
theorem dL_law_722 : decode cL_law 722 = .ok (.aload_n 0, 1) := by decide +kernel
theorem dL_law_723 : decode cL_law 723 = .ok (.iload 4, 2) := by decide +kernel
theorem dL_law_725 : decode cL_law 725 = .ok (.iconst 1, 1) := by decide +kernel
theorem dL_law_726 : decode cL_law 726 = .ok (.iadd, 1) := by decide +kernel
theorem dL_law_727 : decode cL_law 727 = .ok (.iaload, 1) := by decide +kernel
theorem dL_law_728 : decode cL_law 728 = .ok (.aload_n 0, 1) := by decide +kernel
theorem dL_law_729 : decode cL_law 729 = .ok (.iload 4, 2) := by decide +kernel
theorem dL_law_731 : decode cL_law 731 = .ok (.iconst 2, 1) := by decide +kernel
theorem dL_law_732 : decode cL_law 732 = .ok (.iadd, 1) := by decide +kernel
theorem dL_law_733 : decode cL_law 733 = .ok (.iaload, 1) := by decide +kernel
theorem dL_law_734 : decode cL_law 734 = .ok (.invokevirtual 114, 3) := by decide +kernel
theorem dL_law_737 : decode cL_law 737 = .ok (.istore 6, 2) := by decide +kernel
theorem dL_law_739 : decode cL_law 739 = .ok (.aload_n 2, 1) := by decide +kernel
theorem dL_law_740 : decode cL_law 740 = .ok (.invokevirtual 75, 3) := by decide +kernel
theorem dL_law_743 : decode cL_law 743 = .ok (.iload 5, 2) := by decide +kernel
theorem dL_law_745 : decode cL_law 745 = .ok (.if_icmp .eq 5, 3) := by decide +kernel
theorem dL_law_748 : decode cL_law 748 = .ok (.iconst 0, 1) := by decide +kernel
theorem dL_law_749 : decode cL_law 749 = .ok (.ireturn, 1) := by decide +kernel
theorem dL_law_750 : decode cL_law 750 = .ok (.iload 5, 2) := by decide +kernel
theorem dL_law_752 : decode cL_law 752 = .ok (.ifCond .ne 15, 3) := by decide +kernel
theorem dL_law_755 : decode cL_law 755 = .ok (.aload_n 3, 1) := by decide +kernel
theorem dL_law_756 : decode cL_law 756 = .ok (.iconst 0, 1) := by decide +kernel
theorem dL_law_757 : decode cL_law 757 = .ok (.laload, 1) := by decide +kernel
theorem dL_law_758 : decode cL_law 758 = .ok (.iload 6, 2) := by decide +kernel
theorem dL_law_760 : decode cL_law 760 = .ok (.i2l, 1) := by decide +kernel
theorem dL_law_761 : decode cL_law 761 = .ok (.lcmp, 1) := by decide +kernel
theorem dL_law_762 : decode cL_law 762 = .ok (.ifCond .eq 5, 3) := by decide +kernel
theorem dL_law_765 : decode cL_law 765 = .ok (.iconst 0, 1) := by decide +kernel
theorem dL_law_766 : decode cL_law 766 = .ok (.ireturn, 1) := by decide +kernel
theorem dL_law_767 : decode cL_law 767 = .ok (.goto 243, 3) := by decide +kernel
theorem dL_law_770 : decode cL_law 770 = .ok (.aload_n 1, 1) := by decide +kernel
theorem dL_law_771 : decode cL_law 771 = .ok (.aload_n 0, 1) := by decide +kernel
theorem dL_law_772 : decode cL_law 772 = .ok (.iload 4, 2) := by decide +kernel
theorem dL_law_774 : decode cL_law 774 = .ok (.iconst 1, 1) := by decide +kernel
theorem dL_law_775 : decode cL_law 775 = .ok (.iadd, 1) := by decide +kernel
theorem dL_law_776 : decode cL_law 776 = .ok (.iaload, 1) := by decide +kernel
theorem dL_law_777 : decode cL_law 777 = .ok (.aload_n 0, 1) := by decide +kernel
theorem dL_law_778 : decode cL_law 778 = .ok (.iload 4, 2) := by decide +kernel
theorem dL_law_780 : decode cL_law 780 = .ok (.iconst 2, 1) := by decide +kernel
theorem dL_law_781 : decode cL_law 781 = .ok (.iadd, 1) := by decide +kernel
theorem dL_law_782 : decode cL_law 782 = .ok (.iaload, 1) := by decide +kernel
theorem dL_law_783 : decode cL_law 783 = .ok (.aload_n 3, 1) := by decide +kernel
theorem dL_law_784 : decode cL_law 784 = .ok (.invokestatic 115, 3) := by decide +kernel
theorem dL_law_787 : decode cL_law 787 = .ok (.istore 5, 2) := by decide +kernel
theorem dL_law_789 : decode cL_law 789 = .ok (.aload_n 2, 1) := by decide +kernel
theorem dL_law_790 : decode cL_law 790 = .ok (.aload_n 0, 1) := by decide +kernel
theorem dL_law_791 : decode cL_law 791 = .ok (.iload 4, 2) := by decide +kernel
theorem dL_law_793 : decode cL_law 793 = .ok (.iconst 1, 1) := by decide +kernel
theorem dL_law_794 : decode cL_law 794 = .ok (.iadd, 1) := by decide +kernel
theorem dL_law_795 : decode cL_law 795 = .ok (.iaload, 1) := by decide +kernel
theorem dL_law_796 : decode cL_law 796 = .ok (.aload_n 0, 1) := by decide +kernel
theorem dL_law_797 : decode cL_law 797 = .ok (.iload 4, 2) := by decide +kernel
theorem dL_law_799 : decode cL_law 799 = .ok (.iconst 2, 1) := by decide +kernel
theorem dL_law_800 : decode cL_law 800 = .ok (.iadd, 1) := by decide +kernel
theorem dL_law_801 : decode cL_law 801 = .ok (.iaload, 1) := by decide +kernel
theorem dL_law_802 : decode cL_law 802 = .ok (.invokevirtual 117, 3) := by decide +kernel
theorem dL_law_805 : decode cL_law 805 = .ok (.istore 6, 2) := by decide +kernel
theorem dL_law_807 : decode cL_law 807 = .ok (.aload_n 2, 1) := by decide +kernel
theorem dL_law_808 : decode cL_law 808 = .ok (.invokevirtual 75, 3) := by decide +kernel
theorem dL_law_811 : decode cL_law 811 = .ok (.iload 5, 2) := by decide +kernel
theorem dL_law_813 : decode cL_law 813 = .ok (.if_icmp .eq 5, 3) := by decide +kernel
theorem dL_law_816 : decode cL_law 816 = .ok (.iconst 0, 1) := by decide +kernel
theorem dL_law_817 : decode cL_law 817 = .ok (.ireturn, 1) := by decide +kernel
theorem dL_law_818 : decode cL_law 818 = .ok (.iload 5, 2) := by decide +kernel
theorem dL_law_820 : decode cL_law 820 = .ok (.ifCond .ne 15, 3) := by decide +kernel
theorem dL_law_823 : decode cL_law 823 = .ok (.aload_n 3, 1) := by decide +kernel
theorem dL_law_824 : decode cL_law 824 = .ok (.iconst 0, 1) := by decide +kernel
theorem dL_law_825 : decode cL_law 825 = .ok (.laload, 1) := by decide +kernel
theorem dL_law_826 : decode cL_law 826 = .ok (.iload 6, 2) := by decide +kernel
theorem dL_law_828 : decode cL_law 828 = .ok (.i2l, 1) := by decide +kernel
theorem dL_law_829 : decode cL_law 829 = .ok (.lcmp, 1) := by decide +kernel
theorem dL_law_830 : decode cL_law 830 = .ok (.ifCond .eq 5, 3) := by decide +kernel
theorem dL_law_833 : decode cL_law 833 = .ok (.iconst 0, 1) := by decide +kernel
theorem dL_law_834 : decode cL_law 834 = .ok (.ireturn, 1) := by decide +kernel
theorem dL_law_835 : decode cL_law 835 = .ok (.goto 175, 3) := by decide +kernel
theorem dL_law_838 : decode cL_law 838 = .ok (.aload_n 1, 1) := by decide +kernel
theorem dL_law_839 : decode cL_law 839 = .ok (.invokestatic 118, 3) := by decide +kernel
theorem dL_law_842 : decode cL_law 842 = .ok (.istore 5, 2) := by decide +kernel
theorem dL_law_844 : decode cL_law 844 = .ok (.aload_n 2, 1) := by decide +kernel
theorem dL_law_845 : decode cL_law 845 = .ok (.invokevirtual 121, 3) := by decide +kernel
theorem dL_law_848 : decode cL_law 848 = .ok (.aload_n 2, 1) := by decide +kernel
theorem dL_law_849 : decode cL_law 849 = .ok (.invokevirtual 75, 3) := by decide +kernel
theorem dL_law_852 : decode cL_law 852 = .ok (.iload 5, 2) := by decide +kernel
theorem dL_law_854 : decode cL_law 854 = .ok (.if_icmp .eq 5, 3) := by decide +kernel
theorem dL_law_857 : decode cL_law 857 = .ok (.iconst 0, 1) := by decide +kernel
theorem dL_law_858 : decode cL_law 858 = .ok (.ireturn, 1) := by decide +kernel
theorem dL_law_859 : decode cL_law 859 = .ok (.goto 151, 3) := by decide +kernel
theorem dL_law_862 : decode cL_law 862 = .ok (.aload_n 1, 1) := by decide +kernel
theorem dL_law_863 : decode cL_law 863 = .ok (.aload_n 0, 1) := by decide +kernel
theorem dL_law_864 : decode cL_law 864 = .ok (.iload 4, 2) := by decide +kernel
theorem dL_law_866 : decode cL_law 866 = .ok (.iconst 1, 1) := by decide +kernel
theorem dL_law_867 : decode cL_law 867 = .ok (.iadd, 1) := by decide +kernel
theorem dL_law_868 : decode cL_law 868 = .ok (.iaload, 1) := by decide +kernel
theorem dL_law_869 : decode cL_law 869 = .ok (.aload_n 0, 1) := by decide +kernel
theorem dL_law_870 : decode cL_law 870 = .ok (.iload 4, 2) := by decide +kernel
theorem dL_law_872 : decode cL_law 872 = .ok (.iconst 2, 1) := by decide +kernel
theorem dL_law_873 : decode cL_law 873 = .ok (.iadd, 1) := by decide +kernel
theorem dL_law_874 : decode cL_law 874 = .ok (.iaload, 1) := by decide +kernel
theorem dL_law_875 : decode cL_law 875 = .ok (.aload_n 0, 1) := by decide +kernel
theorem dL_law_876 : decode cL_law 876 = .ok (.iload 4, 2) := by decide +kernel
theorem dL_law_878 : decode cL_law 878 = .ok (.iconst 3, 1) := by decide +kernel
theorem dL_law_879 : decode cL_law 879 = .ok (.iadd, 1) := by decide +kernel
theorem dL_law_880 : decode cL_law 880 = .ok (.iaload, 1) := by decide +kernel
theorem dL_law_881 : decode cL_law 881 = .ok (.aload_n 3, 1) := by decide +kernel
theorem dL_law_882 : decode cL_law 882 = .ok (.invokestatic 122, 3) := by decide +kernel
theorem dL_law_885 : decode cL_law 885 = .ok (.istore 5, 2) := by decide +kernel
theorem dL_law_887 : decode cL_law 887 = .ok (.aload_n 2, 1) := by decide +kernel
theorem dL_law_888 : decode cL_law 888 = .ok (.aload_n 0, 1) := by decide +kernel
theorem dL_law_889 : decode cL_law 889 = .ok (.iload 4, 2) := by decide +kernel
theorem dL_law_891 : decode cL_law 891 = .ok (.iconst 1, 1) := by decide +kernel
theorem dL_law_892 : decode cL_law 892 = .ok (.iadd, 1) := by decide +kernel
theorem dL_law_893 : decode cL_law 893 = .ok (.iaload, 1) := by decide +kernel
theorem dL_law_894 : decode cL_law 894 = .ok (.aload_n 0, 1) := by decide +kernel
theorem dL_law_895 : decode cL_law 895 = .ok (.iload 4, 2) := by decide +kernel
theorem dL_law_897 : decode cL_law 897 = .ok (.iconst 2, 1) := by decide +kernel
theorem dL_law_898 : decode cL_law 898 = .ok (.iadd, 1) := by decide +kernel
theorem dL_law_899 : decode cL_law 899 = .ok (.iaload, 1) := by decide +kernel
theorem dL_law_900 : decode cL_law 900 = .ok (.aload_n 0, 1) := by decide +kernel
theorem dL_law_901 : decode cL_law 901 = .ok (.iload 4, 2) := by decide +kernel
theorem dL_law_903 : decode cL_law 903 = .ok (.iconst 3, 1) := by decide +kernel
theorem dL_law_904 : decode cL_law 904 = .ok (.iadd, 1) := by decide +kernel
theorem dL_law_905 : decode cL_law 905 = .ok (.iaload, 1) := by decide +kernel
theorem dL_law_906 : decode cL_law 906 = .ok (.invokevirtual 125, 3) := by decide +kernel
theorem dL_law_909 : decode cL_law 909 = .ok (.istore 6, 2) := by decide +kernel
theorem dL_law_911 : decode cL_law 911 = .ok (.aload_n 2, 1) := by decide +kernel
theorem dL_law_912 : decode cL_law 912 = .ok (.invokevirtual 75, 3) := by decide +kernel
theorem dL_law_915 : decode cL_law 915 = .ok (.iload 5, 2) := by decide +kernel
theorem dL_law_917 : decode cL_law 917 = .ok (.if_icmp .eq 5, 3) := by decide +kernel
theorem dL_law_920 : decode cL_law 920 = .ok (.iconst 0, 1) := by decide +kernel
theorem dL_law_921 : decode cL_law 921 = .ok (.ireturn, 1) := by decide +kernel
theorem dL_law_922 : decode cL_law 922 = .ok (.iload 5, 2) := by decide +kernel
theorem dL_law_924 : decode cL_law 924 = .ok (.ifCond .ne 15, 3) := by decide +kernel
theorem dL_law_927 : decode cL_law 927 = .ok (.aload_n 3, 1) := by decide +kernel
theorem dL_law_928 : decode cL_law 928 = .ok (.iconst 0, 1) := by decide +kernel
theorem dL_law_929 : decode cL_law 929 = .ok (.laload, 1) := by decide +kernel
theorem dL_law_930 : decode cL_law 930 = .ok (.iload 6, 2) := by decide +kernel
theorem dL_law_932 : decode cL_law 932 = .ok (.i2l, 1) := by decide +kernel
theorem dL_law_933 : decode cL_law 933 = .ok (.lcmp, 1) := by decide +kernel
theorem dL_law_934 : decode cL_law 934 = .ok (.ifCond .eq 5, 3) := by decide +kernel
theorem dL_law_937 : decode cL_law 937 = .ok (.iconst 0, 1) := by decide +kernel
theorem dL_law_938 : decode cL_law 938 = .ok (.ireturn, 1) := by decide +kernel
theorem dL_law_939 : decode cL_law 939 = .ok (.goto 71, 3) := by decide +kernel
theorem dL_law_942 : decode cL_law 942 = .ok (.aload_n 1, 1) := by decide +kernel
theorem dL_law_943 : decode cL_law 943 = .ok (.aload_n 0, 1) := by decide +kernel
theorem dL_law_944 : decode cL_law 944 = .ok (.iload 4, 2) := by decide +kernel
theorem dL_law_946 : decode cL_law 946 = .ok (.iconst 1, 1) := by decide +kernel
theorem dL_law_947 : decode cL_law 947 = .ok (.iadd, 1) := by decide +kernel
theorem dL_law_948 : decode cL_law 948 = .ok (.iaload, 1) := by decide +kernel
theorem dL_law_949 : decode cL_law 949 = .ok (.aload_n 0, 1) := by decide +kernel
theorem dL_law_950 : decode cL_law 950 = .ok (.iload 4, 2) := by decide +kernel
theorem dL_law_952 : decode cL_law 952 = .ok (.iconst 2, 1) := by decide +kernel
theorem dL_law_953 : decode cL_law 953 = .ok (.iadd, 1) := by decide +kernel
theorem dL_law_954 : decode cL_law 954 = .ok (.iaload, 1) := by decide +kernel
theorem dL_law_955 : decode cL_law 955 = .ok (.aload_n 3, 1) := by decide +kernel
theorem dL_law_956 : decode cL_law 956 = .ok (.invokestatic 126, 3) := by decide +kernel
theorem dL_law_959 : decode cL_law 959 = .ok (.istore 5, 2) := by decide +kernel
theorem dL_law_961 : decode cL_law 961 = .ok (.aload_n 2, 1) := by decide +kernel
theorem dL_law_962 : decode cL_law 962 = .ok (.aload_n 0, 1) := by decide +kernel
theorem dL_law_963 : decode cL_law 963 = .ok (.iload 4, 2) := by decide +kernel
theorem dL_law_965 : decode cL_law 965 = .ok (.iconst 1, 1) := by decide +kernel
theorem dL_law_966 : decode cL_law 966 = .ok (.iadd, 1) := by decide +kernel
theorem dL_law_967 : decode cL_law 967 = .ok (.iaload, 1) := by decide +kernel
theorem dL_law_968 : decode cL_law 968 = .ok (.aload_n 0, 1) := by decide +kernel
theorem dL_law_969 : decode cL_law 969 = .ok (.iload 4, 2) := by decide +kernel
theorem dL_law_971 : decode cL_law 971 = .ok (.iconst 2, 1) := by decide +kernel
theorem dL_law_972 : decode cL_law 972 = .ok (.iadd, 1) := by decide +kernel
theorem dL_law_973 : decode cL_law 973 = .ok (.iaload, 1) := by decide +kernel
theorem dL_law_974 : decode cL_law 974 = .ok (.invokevirtual 128, 3) := by decide +kernel
theorem dL_law_977 : decode cL_law 977 = .ok (.istore 6, 2) := by decide +kernel
theorem dL_law_979 : decode cL_law 979 = .ok (.aload_n 2, 1) := by decide +kernel
theorem dL_law_980 : decode cL_law 980 = .ok (.invokevirtual 75, 3) := by decide +kernel
theorem dL_law_983 : decode cL_law 983 = .ok (.iload 5, 2) := by decide +kernel
theorem dL_law_985 : decode cL_law 985 = .ok (.if_icmp .eq 5, 3) := by decide +kernel
theorem dL_law_988 : decode cL_law 988 = .ok (.iconst 0, 1) := by decide +kernel
theorem dL_law_989 : decode cL_law 989 = .ok (.ireturn, 1) := by decide +kernel
theorem dL_law_990 : decode cL_law 990 = .ok (.iload 5, 2) := by decide +kernel
theorem dL_law_992 : decode cL_law 992 = .ok (.ifCond .ne 15, 3) := by decide +kernel
theorem dL_law_995 : decode cL_law 995 = .ok (.aload_n 3, 1) := by decide +kernel
theorem dL_law_996 : decode cL_law 996 = .ok (.iconst 0, 1) := by decide +kernel
theorem dL_law_997 : decode cL_law 997 = .ok (.laload, 1) := by decide +kernel
theorem dL_law_998 : decode cL_law 998 = .ok (.iload 6, 2) := by decide +kernel
theorem dL_law_1000 : decode cL_law 1000 = .ok (.i2l, 1) := by decide +kernel
theorem dL_law_1001 : decode cL_law 1001 = .ok (.lcmp, 1) := by decide +kernel
theorem dL_law_1002 : decode cL_law 1002 = .ok (.ifCond .eq 5, 3) := by decide +kernel
theorem dL_law_1005 : decode cL_law 1005 = .ok (.iconst 0, 1) := by decide +kernel
theorem dL_law_1006 : decode cL_law 1006 = .ok (.ireturn, 1) := by decide +kernel
theorem dL_law_1007 : decode cL_law 1007 = .ok (.goto 3, 3) := by decide +kernel
theorem dL_law_1010 : decode cL_law 1010 = .ok (.iinc 4 4, 3) := by decide +kernel
theorem dL_law_1013 : decode cL_law 1013 = .ok (.goto (-990), 3) := by decide +kernel
theorem dL_law_1016 : decode cL_law 1016 = .ok (.iconst 1, 1) := by decide +kernel
theorem dL_law_1017 : decode cL_law 1017 = .ok (.ireturn, 1) := by decide +kernel
end
section
/-! numbers: every long is lI of a whole number, every int iI of one -/
def lI (z : Int) : Int64 := Int64.ofInt z
def iI (z : Int) : Int32 := Int32.ofInt z
theorem lI_add (a b : Int) : lI a + lI b = lI (a + b) := (Int64.ofInt_add a b).symm
theorem lI_mul (a b : Int) : lI a * lI b = lI (a * b) := (Int64.ofInt_mul a b).symm
theorem lI_neg (a : Int) : -lI a = lI (-a) := (Int64.ofInt_neg a).symm
theorem lI_sub (a b : Int) : lI a - lI b = lI (a - b) := (Int64.ofInt_sub a b).symm
theorem iI_add (a b : Int) : iI a + iI b = iI (a + b) := (Int32.ofInt_add a b).symm
theorem iI_mul (a b : Int) : iI a * iI b = iI (a * b) := (Int32.ofInt_mul a b).symm
theorem iI_sub (a b : Int) : iI a - iI b = iI (a - b) := (Int32.ofInt_sub a b).symm
theorem lI_toInt {z : Int} (h1 : -2 ^ 63 ≤ z) (h2 : z < 2 ^ 63) : (lI z).toInt = z := by
  unfold lI
  rw [Int64.toInt_ofInt, Jvm.Kit.bmod64 h1 h2]
theorem iI_toInt {z : Int} (h1 : -2 ^ 31 ≤ z) (h2 : z < 2 ^ 31) : (iI z).toInt = z := by
  unfold iI
  rw [Int32.toInt_ofInt, Jvm.Kit.bmod32 h1 h2]
theorem lI_of (x : Int64) : lI x.toInt = x := Int64.ofInt_toInt x
theorem iI_of (x : Int32) : iI x.toInt = x := Int32.ofInt_toInt x
theorem lI_eq {a b : Int} (ha : -2 ^ 63 ≤ a) (ha2 : a < 2 ^ 63) (hb : -2 ^ 63 ≤ b) (hb2 : b < 2 ^ 63) : lI a = lI b ↔ a = b := by
  constructor
  · intro h
    have := congrArg Int64.toInt h
    rwa [lI_toInt ha ha2, lI_toInt hb hb2] at this
  · rintro rfl; rfl
theorem lI_le {a b : Int} (ha : -2 ^ 63 ≤ a) (ha2 : a < 2 ^ 63) (hb : -2 ^ 63 ≤ b) (hb2 : b < 2 ^ 63) : lI a ≤ lI b ↔ a ≤ b := by
  rw [Int64.le_iff_toInt_le, lI_toInt ha ha2, lI_toInt hb hb2]
theorem lI_lt {a b : Int} (ha : -2 ^ 63 ≤ a) (ha2 : a < 2 ^ 63) (hb : -2 ^ 63 ≤ b) (hb2 : b < 2 ^ 63) : lI a < lI b ↔ a < b := by
  rw [Int64.lt_iff_toInt_lt, lI_toInt ha ha2, lI_toInt hb hb2]
theorem lI_rem {a b : Int} (ha : -2 ^ 63 ≤ a) (ha2 : a < 2 ^ 63) (hb : -2 ^ 63 ≤ b) (hb2 : b < 2 ^ 63) : lI a - lI a / lI b * lI b = lI (a.tmod b) := by
  rw [← lI_of (lI a - lI a / lI b * lI b), Jvm.Kit.i64_rem, lI_toInt ha ha2, lI_toInt hb hb2]
theorem lI_rem0 {a b : Int} (ha : 0 ≤ a) (ha2 : a < 2 ^ 63) (hb : 0 ≤ b) (hb2 : b < 2 ^ 63) : lI a - lI a / lI b * lI b = lI (a % b) := by
  rw [lI_rem (by omega) ha2 (by omega) hb2, Int.tmod_eq_emod_of_nonneg ha]
theorem lI_div {a b : Int} (ha : 0 ≤ a) (ha2 : a < 2 ^ 63) (hb : 0 < b) (hb2 : b < 2 ^ 63) : lI a / lI b = lI (a / b) := by
  rw [← lI_of (lI a / lI b), Jvm.Kit.i64_div (by rw [lI_toInt (by omega) ha2]; omega), lI_toInt (by omega) ha2, lI_toInt (by omega) hb2, Int.tdiv_eq_ediv_of_nonneg ha]
theorem i2l_I (x : Int32) : x.toInt64 = lI x.toInt := by
  rw [← lI_of x.toInt64, Jvm.Kit.i64_of_i32]
theorem iI_l {z : Int} (h1 : -2 ^ 31 ≤ z) (h2 : z < 2 ^ 31) : (iI z).toInt64 = lI z := by
  rw [i2l_I, iI_toInt h1 h2]
theorem nI_lI {n : Nat} (h : n < 2 ^ 31) : (nI n).toInt64 = lI n := by
  rw [i2l_I, nI_toInt h]
theorem lI_i (z : Int) : (lI z).toInt32 = iI z := by
  unfold lI iI
  rw [← Int32.ofInt_toInt (Int64.toInt32 (Int64.ofInt z)), Int64.toInt_toInt32, Int64.toInt_ofInt]
  apply Int32.toInt_inj.mp
  rw [Int32.toInt_ofInt, Int32.toInt_ofInt]
  simp only [Int.bmod_bmod]
  exact Int.bmod_bmod_of_dvd (by decide)
theorem nI_I (n : Nat) : nI n = iI n := by
  unfold nI iI
  exact (Int32.ofInt_eq_ofNat).symm
theorem lN_I (n : Nat) : lN n = lI n := by
  unfold lN lI
  exact (Int64.ofInt_eq_ofNat).symm
/-- longs in an array: written at a place -/
def upI (F : Nat → Int) (k : Nat) (z : Int) : Nat → Int := fun j => if j = k then z else F j
theorem upI_l (F : Nat → Int) (k : Nat) (z : Int) : vp_updL (fun j => lI (F j)) k (lI z) = fun j => lI (upI F k z j) := by
  funext j
  unfold vp_updL upI
  by_cases h : j = k <;> simp [h]
theorem upI_s {F : Nat → Int} {k : Nat} {z : Int} : upI F k z k = z := if_pos rfl
theorem upI_n {F : Nat → Int} {k j : Nat} {z : Int} (h : j ≠ k) : upI F k z j = F j := if_neg h
theorem lI_fun (f : Nat → Int64) : f = fun j => lI ((fun j => (f j).toInt) j) := by
  funext j
  exact (lI_of (f j)).symm
theorem mul_b30 {a b c : Int} (ha : 0 ≤ a) (ha2 : a < c) (hb : 0 ≤ b) (hb2 : b < c) (hc : c ≤ 2 ^ 30) : 0 ≤ a * b ∧ a * b < 2 ^ 60 := by
  refine ⟨Int.mul_nonneg ha hb, ?_⟩
  have h1 : a * b ≤ a * (2 ^ 30 - 1) := Int.mul_le_mul_of_nonneg_left (by omega) ha
  have h2 : a * (2 ^ 30 - 1) ≤ (2 ^ 30 - 1) * (2 ^ 30 - 1) := Int.mul_le_mul_of_nonneg_right (by omega) (by omega)
  omega
/-- the step of raising to a power, modulo P -/
theorem raise_step (r s P : Int) (k : Nat) : (if k % 2 = 1 then r * s % P else r) * ((s * s % P) ^ (k / 2)) % P = r * s ^ k % P := by
  have hs : ∀ q : Nat, (s * s % P) ^ q % P = (s * s) ^ q % P := by
    intro q
    induction q with
    | zero => rw [Int.pow_zero, Int.pow_zero]
    | succ q ih => rw [Int.pow_succ, Int.pow_succ, Int.mul_emod, ih, Int.emod_emod, ← Int.mul_emod]
  have hk : s ^ k = (s * s) ^ (k / 2) * s ^ (k % 2) := by
    have h2 : s * s = s ^ 2 := by rw [Int.pow_succ, Int.pow_succ, Int.pow_zero, Int.one_mul]
    rw [h2, ← Int.pow_mul, ← Int.pow_add]
    congr 1
    omega
  by_cases h : k % 2 = 1
  · rw [if_pos h, Int.mul_emod, hs, Int.emod_emod, ← Int.mul_emod, hk, h, Int.pow_succ, Int.pow_zero, Int.one_mul]
    congr 1
    rw [Int.mul_assoc, Int.mul_comm s]
  · have h0 : k % 2 = 0 := by omega
    rw [if_neg h, Int.mul_emod, hs, ← Int.mul_emod, hk, h0, Int.pow_zero, Int.mul_one]
/-- the remainder, as the class has it: what Java's % leaves, and p more below 0 -/
theorem rem_fix {x p : Int} (hp : 0 < p) : (if x.tmod p < 0 then x.tmod p + p else x.tmod p) = x % p := by
  have h2 := Int.emod_nonneg x (show p ≠ 0 by omega)
  have h3 := Int.emod_lt_of_pos x hp
  have h4 : ((p.natAbs : Nat) : Int) = p := by omega
  rw [Int.tmod_eq_emod]
  by_cases h : 0 ≤ x ∨ p ∣ x
  · rw [if_pos h, show x % p - ((0 : Nat) : Int) = x % p by omega, if_neg (by omega)]
  · rw [if_neg h, h4, if_pos (by omega)]
    omega
end
section
theorem zz_shr {n k : Nat} (hn : n < 2 ^ 31) (hk : k ≤ 9) : nI n >>> (nI k &&& 31) = nI (n / 2 ^ k) := by
  refine pk_shrN hn (nI k &&& 31) k ?_
  have : ∀ j : Nat, j < 10 → ((nI j &&& 31).toBitVec.smod 32).toNat = j := by decide +kernel
  exact this k (by omega)
abbrev q_X1_remainder (dC : Nat → ClassId) (dI : Nat → Nat → Nat) (x : Int) (P : Nat) (A : Nat → Prop) : Array Value → State → Outcome → State → Prop := va_Ql (fun (r : Int64) (u : Unit) => r = lI (x % (P : Int))) (fun u t => va_P (dC, dI) vwCl [] t.heap ∧ va_D A []) A
set_option maxHeartbeats 4000000 in
set_option maxRecDepth 100000 in
theorem c_X1_remainder (l : Launch) (dC : Nat → ClassId) (dI : Nat → Nat → Nat) (x : Int) (P : Nat) (sz : Nat) (zx1 : -2 ^ 63 ≤ x) (zx2 : x < 2 ^ 63) (hp0 : (0 : Int) < (P : Int)) (hp1 : P ≤ 2 ^ 30) : Met l yX1_remainder wsX1_remainder ({ frames := 0, cells := 0, slots := 0, locals := 0 }) (va_Pc [.long (lI x), .int (nI P)] (fun U => U.heap.size = sz ∧ va_P (dC, dI) vwCl [] U.heap ∧ va_K (dC, dI) vwCl [] U ∧ va_D (fun _ => True) [])) (q_X1_remainder dC dI x P (va_A [] sz)) 0 0 (va_A [] sz) := by
  refine Met.ofW (cc := cX1_remainder) (maxL := 5) (ret := (some .long)) (by decide) rfl ?_
  intro p e s m args below meth c s₁ B hml hv
  obtain ⟨rfl, hsz, hP, hK, hD0⟩ := hv
  have hx := B.exec
  have hb := B.bytes
  have hr := B.returns
  have hts := atoms_spec (ws := wsX1_remainder) B.pre
  have hown : s.vm.findClass RX1 = some m.cls := findClass_of_methodNamed B.named
  have hlocks := B.notSynchronized
  subst hsz
  have hD := hD0.self (sz := s.heap.size)
  generalize hAe : va_A [] s.heap.size = A at hD ⊢
  have hA : ∀ q : Nat, s.heap.size ≤ q → A q := fun q h => by rw [← hAe]; exact Or.inr h
  have hS : va_S A s.heap s.heap [] := va_S.rf
  have hP : va_P (dC, dI) vwCl [] s.heap := hP
  have hl := lv_entry (([.long (lI x), .int (nI P)] : List Value)) (n := 5) (Nat.le_of_ble_eq_true rfl)
  rw [lg_entry_eq]
  generalize (lg_sl (([.long (lI x), .int (nI P)] : List Value)) ++ List.replicate (5 - (lg_sl (([.long (lI x), .int (nI P)] : List Value))).length) Slot.unset).toArray = ls at hl ⊢
  have hl : lv_has ls 5 [(0, .long (lI x)), (2, .int (nI P))] := hl
  obtain ⟨H, hHe⟩ : ∃ H : Heap, H = s.heap := ⟨_, rfl⟩
  rw [← hHe] at hP
  have hS : va_S A s.heap H [] := by rw [hHe]; exact hS
  obtain ⟨locs, hlo⟩ : ∃ L : List Loc, L = [] := ⟨_, rfl⟩
  rw [← hlo] at hS ⊢
  rw [← hHe]
  refine lv_lload_n hx hb dX1_remainder_0 rfl (lv_at hl 0 rfl) ?_
  refine lv_iload_n hx hb dX1_remainder_1 rfl (lv_at hl 1 rfl) ?_
  refine lv_i2l (v := lI ((P : Nat) : Int)) hx hb dX1_remainder_2 (nI_lI (by omega)) ?_
  refine lv_lrem hx hb dX1_remainder_3 (fun zq9 => absurd ((lI_eq (b := 0) (by omega) (by omega) (by omega) (by omega)).mp zq9) (by omega)) ?_
  refine W.eq (congrArg (fun z => F0 m _ ls (.long z :: _)) (show lI x - lI x / lI ((P : Nat) : Int) * lI ((P : Nat) : Int) = lI ((x).tmod ((P : Nat) : Int)) from lI_rem (by omega) (by omega) (by omega) (by omega))) ?_
  have ht1 := Int.tmod_lt_of_pos x hp0
  have ht2 : -(P : Int) < x.tmod (P : Int) := by have h := Int.emod_nonneg x (show (P : Int) ≠ 0 by omega); rw [Int.tmod_eq_emod]; split <;> omega
  refine lv_lstore_n (lv' := [(3, .long (lI ((x).tmod ((P : Nat) : Int)))), (0, .long (lI x)), (2, .int (nI P))]) hx hb dX1_remainder_4 rfl hl (by decide) rfl (fun ls hl => ?_)
  refine lv_lload_n hx hb dX1_remainder_5 rfl (lv_at hl 0 rfl) ?_
  refine lv_lconst (v := lI 0) hx hb dX1_remainder_6 (by decide) ?_
  refine W.lcmp hx hb dX1_remainder_7 ?_
  refine lv_if_ge (tgt := 18) hx hb dX1_remainder_8 (by decide) (fun c_1 => ?_) (fun c_1 => ?_)
  · have c_1 : 0 ≤ ((x).tmod ((P : Nat) : Int)) := ((lg_cmp_ge _ _).trans (lI_le (a := 0) (b := (x).tmod ((P : Nat) : Int)) (by omega) (by omega) (by omega) (by omega))).mp c_1
    refine lv_lload_n hx hb dX1_remainder_18 rfl (lv_at hl 0 rfl) ?_
    have hP9 : va_P (dC, dI) vwCl [] H := hP.sub [] rfl
    have hD9 : va_D A [] := hD.sub [] (by decide) rfl
    exact W.lret (v := lI ((x).tmod ((P : Nat) : Int))) hx hb hr (fun t ht hW => ⟨⟨lI ((x).tmod ((P : Nat) : Int)), (), rfl, by rw [← rem_fix (x := x) hp0, if_neg (by omega)], by rw [ht]; exact hP9, hD9⟩, hS.F ht⟩) hS.2.2 dX1_remainder_19
  · have c_1 : ¬ (0 ≤ ((x).tmod ((P : Nat) : Int))) := fun zq9 => c_1 (((lg_cmp_ge _ _).trans (lI_le (a := 0) (b := (x).tmod ((P : Nat) : Int)) (by omega) (by omega) (by omega) (by omega))).mpr zq9)
    refine lv_lload_n hx hb dX1_remainder_11 rfl (lv_at hl 0 rfl) ?_
    refine lv_iload_n hx hb dX1_remainder_12 rfl (lv_at hl 2 rfl) ?_
    refine lv_i2l (v := lI ((P : Nat) : Int)) hx hb dX1_remainder_13 (nI_lI (by omega)) ?_
    refine lv_ladd hx hb dX1_remainder_14 ?_
    refine W.eq (congrArg (fun z => F0 m _ ls (.long z :: _)) (show lI ((x).tmod ((P : Nat) : Int)) + lI ((P : Nat) : Int) = lI (((x).tmod ((P : Nat) : Int)) + ((P : Nat) : Int)) from lI_add ((x).tmod ((P : Nat) : Int)) ((P : Nat) : Int))) ?_
    refine lv_goto (tgt := 19) hx hb dX1_remainder_15 (by decide) ?_
    have hP9 : va_P (dC, dI) vwCl [] H := hP.sub [] rfl
    have hD9 : va_D A [] := hD.sub [] (by decide) rfl
    exact W.lret (v := lI (((x).tmod ((P : Nat) : Int)) + ((P : Nat) : Int))) hx hb hr (fun t ht hW => ⟨⟨lI (((x).tmod ((P : Nat) : Int)) + ((P : Nat) : Int)), (), rfl, by rw [← rem_fix (x := x) hp0, if_pos (by omega)], by rw [ht]; exact hP9, hD9⟩, hS.F ht⟩) hS.2.2 dX1_remainder_19

abbrev q_X1_raise (dC : Nat → ClassId) (dI : Nat → Nat → Nat) (b : Int) (x P : Nat) (A : Nat → Prop) : Array Value → State → Outcome → State → Prop := va_Ql (fun (r : Int64) (u : Unit) => r = lI (b ^ x % (P : Int))) (fun u t => va_P (dC, dI) vwCl [] t.heap ∧ va_D A []) A
set_option maxHeartbeats 4000000 in
set_option maxRecDepth 100000 in
theorem c_X1_raise (l : Launch) (dC : Nat → ClassId) (dI : Nat → Nat → Nat) (b : Int) (x P : Nat) (sz : Nat) (zb0 : 0 ≤ b) (zb1 : b < P) (zxx : x < 2 ^ 31) (hp1 : 1 < P) (hp2 : P ≤ 2 ^ 30) : Met l yX1_raise wsX1_raise ({ frames := 0, cells := 0, slots := 0, locals := 0 }) (va_Pc [.long (lI b), .int (nI x), .int (nI P)] (fun U => U.heap.size = sz ∧ va_P (dC, dI) vwCl [] U.heap ∧ va_K (dC, dI) vwCl [] U ∧ va_D (fun _ => True) [])) (q_X1_raise dC dI b x P (va_A [] sz)) 0 0 (va_A [] sz) := by
  refine Met.ofW (cc := cX1_raise) (maxL := 9) (ret := (some .long)) (by decide) rfl ?_
  intro p e s m args below meth c s₁ B hml hv
  obtain ⟨rfl, hsz, hP, hK, hD0⟩ := hv
  have hx := B.exec
  have hb := B.bytes
  have hr := B.returns
  have hts := atoms_spec (ws := wsX1_raise) B.pre
  have hown : s.vm.findClass RX1 = some m.cls := findClass_of_methodNamed B.named
  have hlocks := B.notSynchronized
  subst hsz
  have hD := hD0.self (sz := s.heap.size)
  generalize hAe : va_A [] s.heap.size = A at hD ⊢
  have hA : ∀ q : Nat, s.heap.size ≤ q → A q := fun q h => by rw [← hAe]; exact Or.inr h
  have hS : va_S A s.heap s.heap [] := va_S.rf
  have hP : va_P (dC, dI) vwCl [] s.heap := hP
  have hl := lv_entry (([.long (lI b), .int (nI x), .int (nI P)] : List Value)) (n := 9) (Nat.le_of_ble_eq_true rfl)
  rw [lg_entry_eq]
  generalize (lg_sl (([.long (lI b), .int (nI x), .int (nI P)] : List Value)) ++ List.replicate (9 - (lg_sl (([.long (lI b), .int (nI x), .int (nI P)] : List Value))).length) Slot.unset).toArray = ls at hl ⊢
  have hl : lv_has ls 9 [(0, .long (lI b)), (2, .int (nI x)), (3, .int (nI P))] := hl
  obtain ⟨H, hHe⟩ : ∃ H : Heap, H = s.heap := ⟨_, rfl⟩
  rw [← hHe] at hP
  have hS : va_S A s.heap H [] := by rw [hHe]; exact hS
  obtain ⟨locs, hlo⟩ : ∃ L : List Loc, L = [] := ⟨_, rfl⟩
  rw [← hlo] at hS ⊢
  rw [← hHe]
  refine lv_lconst (v := lI 1) hx hb dX1_raise_0 (by decide) ?_
  refine lv_lstore (lv' := [(4, .long (lI 1)), (0, .long (lI b)), (2, .int (nI x)), (3, .int (nI P))]) hx hb dX1_raise_1 hl (by decide) rfl (fun ls hl => ?_)
  refine lv_lload_n hx hb dX1_raise_3 rfl (lv_at hl 1 rfl) ?_
  refine lv_lstore (lv' := [(6, .long (lI b)), (4, .long (lI 1)), (0, .long (lI b)), (2, .int (nI x)), (3, .int (nI P))]) hx hb dX1_raise_4 hl (by decide) rfl (fun ls hl => ?_)
  refine lv_iload_n hx hb dX1_raise_6 rfl (lv_at hl 3 rfl) ?_
  refine lv_istore (lv' := [(8, .int (nI x)), (6, .long (lI b)), (4, .long (lI 1)), (0, .long (lI b)), (2, .int (nI x)), (3, .int (nI P))]) hx hb dX1_raise_7 hl (by decide) rfl (fun ls hl => ?_)
  have key_9 : ∀ (fuel : Nat) (r : Int) (q : Int) (k : Nat), (0 ≤ r) → (r < P) → (0 ≤ q) → (q < P) → (k < 2 ^ 31) → (r * q ^ k % (P : Int) = b ^ x % (P : Int)) → (k < fuel) → ∀ (H : Heap) (locs : List Loc) (ls : Array Slot), va_P (dC, dI) vwCl [] H → va_D A [] → va_S A s.heap H locs → lv_has ls 9 [(8, .int (nI k)), (6, .long (lI q)), (4, .long (lI r)), (3, .int (nI P))] → W p l e (headSpec wsX1_raise { frames := 0, cells := 0, slots := 0, locals := 0 }).room s m ([.long (lI b), .int (nI x), .int (nI P)] : List Value).toArray below meth c H locs 0 0 (MQ below (q_X1_raise dC dI b x P  A) ([.long (lI b), .int (nI x), .int (nI P)] : List Value).toArray s 0 0 A) (F0 m 9 ls []) := by
    intro fuel
    induction fuel with
    | zero => intro r q k; intros; omega
    | succ fuel ih_9 =>
      intro r q k hr0 hr1 hq0 hq1 hk hinv hfu H locs ls hP hD hS hl
      have hqq := mul_b30 hq0 hq1 hq0 hq1 (by omega)
      have hrq := mul_b30 hr0 hr1 hq0 hq1 (by omega)
      have hq2 := Int.emod_nonneg (q * q) (show (P : Int) ≠ 0 by omega)
      have hq3 := Int.emod_lt_of_pos (q * q) (show (0 : Int) < P by omega)
      have hr2 := Int.emod_nonneg (r * q) (show (P : Int) ≠ 0 by omega)
      have hr3 := Int.emod_lt_of_pos (r * q) (show (0 : Int) < P by omega)
      have hst := raise_step r q P k
      refine lv_iload hx hb dX1_raise_9 (lv_at hl 0 rfl) ?_
      refine lv_if_le (tgt := 51) hx hb dX1_raise_11 (by decide) (fun c_1 => ?_) (fun c_1 => ?_)
      · have c_1 : k ≤ 0 := (nI_leI (a := k) (b := 0) (by omega) (by omega)).mp c_1
        refine lv_lload hx hb dX1_raise_51 (lv_at hl 2 rfl) ?_
        have hP9 : va_P (dC, dI) vwCl [] H := hP.sub [] rfl
        have hD9 : va_D A [] := hD.sub [] (by decide) rfl
        exact W.lret (v := lI r) hx hb hr (fun t ht hW => ⟨⟨lI r, (), rfl, by congr 1; rw [← hinv, show k = 0 by omega, Int.pow_zero, Int.mul_one, Int.emod_eq_of_lt hr0 hr1], by rw [ht]; exact hP9, hD9⟩, hS.F ht⟩) hS.2.2 dX1_raise_53
      · have c_1 : ¬ (k ≤ 0) := fun zq9 => c_1 ((nI_leI (a := k) (b := 0) (by omega) (by omega)).mpr zq9)
        refine lv_iload hx hb dX1_raise_14 (lv_at hl 0 rfl) ?_
        refine lv_iconst (v := nI 2) hx hb dX1_raise_16 (by decide) ?_
        refine lv_irem hx hb dX1_raise_17 (nI_ne0 (by omega) (by omega)) ?_
        refine W.eq (congrArg (fun z => F0 m _ ls (.int z :: _)) (show nI k - nI k / nI 2 * nI 2 = nI (k % 2) from pk_rem (by omega) (by omega) (by omega))) ?_
        refine lv_iconst (v := nI 1) hx hb dX1_raise_18 (by decide) ?_
        refine lv_icmp_ne (tgt := 32) hx hb dX1_raise_19 (by decide) (fun c_2 => ?_) (fun c_2 => ?_)
        · have c_2 : ¬ (k % 2 = 1) := fun zq9 => c_2 ((nI_eq (a := k % 2) (b := 1) (by omega) (by omega)).mpr zq9)
          refine lv_lload hx hb dX1_raise_32 (lv_at hl 1 rfl) ?_
          refine lv_lload hx hb dX1_raise_34 (lv_at hl 1 rfl) ?_
          refine lv_lmul hx hb dX1_raise_36 ?_
          refine W.eq (congrArg (fun z => F0 m _ ls (.long z :: _)) (show lI q * lI q = lI (q * q) from lI_mul q q)) ?_
          refine lv_iload_n hx hb dX1_raise_37 rfl (lv_at hl 3 rfl) ?_
          refine lv_i2l (v := lI ((P : Nat) : Int)) hx hb dX1_raise_38 (nI_lI (by omega)) ?_
          refine lv_lrem hx hb dX1_raise_39 (fun zq9 => absurd ((lI_eq (b := 0) (by omega) (by omega) (by omega) (by omega)).mp zq9) (by omega)) ?_
          refine W.eq (congrArg (fun z => F0 m _ ls (.long z :: _)) (show lI (q * q) - lI (q * q) / lI ((P : Nat) : Int) * lI ((P : Nat) : Int) = lI ((q * q) % ((P : Nat) : Int)) from lI_rem0 (by omega) (by omega) (by omega) (by omega))) ?_
          refine lv_lstore (lv' := [(6, .long (lI ((q * q) % ((P : Nat) : Int)))), (8, .int (nI k)), (4, .long (lI r)), (3, .int (nI P))]) hx hb dX1_raise_40 hl (by decide) rfl (fun ls hl => ?_)
          refine lv_iload hx hb dX1_raise_42 (lv_at hl 1 rfl) ?_
          refine lv_iconst (v := nI 2) hx hb dX1_raise_44 (by decide) ?_
          refine lv_idiv hx hb dX1_raise_45 (nI_ne0 (by omega) (by omega)) ?_
          refine W.eq (congrArg (fun z => F0 m _ ls (.int z :: _)) (show nI k / nI 2 = nI (k / 2) from pk_div (by omega) (by omega) (by omega))) ?_
          refine lv_istore (lv' := [(8, .int (nI (k / 2))), (6, .long (lI ((q * q) % ((P : Nat) : Int)))), (4, .long (lI r)), (3, .int (nI P))]) hx hb dX1_raise_46 hl (by decide) rfl (fun ls hl => ?_)
          refine lv_goto (tgt := 9) hx hb dX1_raise_48 (by decide) ?_
          exact ih_9  r (q * q % (P : Int)) (k / 2) (by omega) (by omega) (by omega) (by omega) (by omega) (by rw [← hinv, ← hst, if_neg (by omega)]) (by omega) _ _ _ (hP.sub [] rfl) (hD.sub [] (by decide) rfl) hS (lv_sub hl [0, 1, 2, 3] rfl)
        · have c_2 : k % 2 = 1 := (nI_eq (a := k % 2) (b := 1) (by omega) (by omega)).mp c_2
          refine lv_lload hx hb dX1_raise_22 (lv_at hl 2 rfl) ?_
          refine lv_lload hx hb dX1_raise_24 (lv_at hl 1 rfl) ?_
          refine lv_lmul hx hb dX1_raise_26 ?_
          refine W.eq (congrArg (fun z => F0 m _ ls (.long z :: _)) (show lI r * lI q = lI (r * q) from lI_mul r q)) ?_
          refine lv_iload_n hx hb dX1_raise_27 rfl (lv_at hl 3 rfl) ?_
          refine lv_i2l (v := lI ((P : Nat) : Int)) hx hb dX1_raise_28 (nI_lI (by omega)) ?_
          refine lv_lrem hx hb dX1_raise_29 (fun zq9 => absurd ((lI_eq (b := 0) (by omega) (by omega) (by omega) (by omega)).mp zq9) (by omega)) ?_
          refine W.eq (congrArg (fun z => F0 m _ ls (.long z :: _)) (show lI (r * q) - lI (r * q) / lI ((P : Nat) : Int) * lI ((P : Nat) : Int) = lI ((r * q) % ((P : Nat) : Int)) from lI_rem0 (by omega) (by omega) (by omega) (by omega))) ?_
          refine lv_lstore (lv' := [(4, .long (lI ((r * q) % ((P : Nat) : Int)))), (8, .int (nI k)), (6, .long (lI q)), (3, .int (nI P))]) hx hb dX1_raise_30 hl (by decide) rfl (fun ls hl => ?_)
          refine lv_lload hx hb dX1_raise_32 (lv_at hl 2 rfl) ?_
          refine lv_lload hx hb dX1_raise_34 (lv_at hl 2 rfl) ?_
          refine lv_lmul hx hb dX1_raise_36 ?_
          refine W.eq (congrArg (fun z => F0 m _ ls (.long z :: _)) (show lI q * lI q = lI (q * q) from lI_mul q q)) ?_
          refine lv_iload_n hx hb dX1_raise_37 rfl (lv_at hl 3 rfl) ?_
          refine lv_i2l (v := lI ((P : Nat) : Int)) hx hb dX1_raise_38 (nI_lI (by omega)) ?_
          refine lv_lrem hx hb dX1_raise_39 (fun zq9 => absurd ((lI_eq (b := 0) (by omega) (by omega) (by omega) (by omega)).mp zq9) (by omega)) ?_
          refine W.eq (congrArg (fun z => F0 m _ ls (.long z :: _)) (show lI (q * q) - lI (q * q) / lI ((P : Nat) : Int) * lI ((P : Nat) : Int) = lI ((q * q) % ((P : Nat) : Int)) from lI_rem0 (by omega) (by omega) (by omega) (by omega))) ?_
          refine lv_lstore (lv' := [(6, .long (lI ((q * q) % ((P : Nat) : Int)))), (4, .long (lI ((r * q) % ((P : Nat) : Int)))), (8, .int (nI k)), (3, .int (nI P))]) hx hb dX1_raise_40 hl (by decide) rfl (fun ls hl => ?_)
          refine lv_iload hx hb dX1_raise_42 (lv_at hl 2 rfl) ?_
          refine lv_iconst (v := nI 2) hx hb dX1_raise_44 (by decide) ?_
          refine lv_idiv hx hb dX1_raise_45 (nI_ne0 (by omega) (by omega)) ?_
          refine W.eq (congrArg (fun z => F0 m _ ls (.int z :: _)) (show nI k / nI 2 = nI (k / 2) from pk_div (by omega) (by omega) (by omega))) ?_
          refine lv_istore (lv' := [(8, .int (nI (k / 2))), (6, .long (lI ((q * q) % ((P : Nat) : Int)))), (4, .long (lI ((r * q) % ((P : Nat) : Int)))), (3, .int (nI P))]) hx hb dX1_raise_46 hl (by decide) rfl (fun ls hl => ?_)
          refine lv_goto (tgt := 9) hx hb dX1_raise_48 (by decide) ?_
          exact ih_9  ((r * q) % ((P : Nat) : Int)) (q * q % (P : Int)) (k / 2) (by omega) (by omega) (by omega) (by omega) (by omega) (by rw [← hinv, ← hst, if_pos (by omega)]) (by omega) _ _ _ (hP.sub [] rfl) (hD.sub [] (by decide) rfl) hS (lv_sub hl [0, 1, 2, 3] rfl)
  exact key_9 (x + 1) 1 b x (by omega) (by omega) (zb0) (zb1) (zxx) (by rw [Int.one_mul]) (by omega) _ _ _ (hP.sub [] rfl) (hD.sub [] (by decide) rfl) hS (lv_sub hl [0, 1, 2, 5] rfl)

abbrev q_X1_inverse (dC : Nat → ClassId) (dI : Nat → Nat → Nat) (b : Int) (P : Nat) (A : Nat → Prop) : Array Value → State → Outcome → State → Prop := va_Ql (fun (r : Int64) (u : Unit) => r = lI (b ^ (P - 2) % (P : Int))) (fun u t => va_P (dC, dI) vwCl [] t.heap ∧ va_D A []) A
set_option maxHeartbeats 4000000 in
set_option maxRecDepth 100000 in
theorem c_X1_inverse (l : Launch) (dC : Nat → ClassId) (dI : Nat → Nat → Nat) (b : Int) (P : Nat) (sz : Nat) (zb0 : 0 ≤ b) (zb1 : b < P) (hp1 : 2 < P) (hp2 : P ≤ 2 ^ 30) : Met l yX1_inverse wsX1_inverse ({ frames := 1, cells := 0, slots := 0, locals := 28 }) (va_Pc [.long (lI b), .int (nI P)] (fun U => U.heap.size = sz ∧ va_P (dC, dI) vwCl [] U.heap ∧ va_K (dC, dI) vwCl [] U ∧ va_D (fun _ => True) [])) (q_X1_inverse dC dI b P (va_A [] sz)) 0 0 (va_A [] sz) := by
  refine Met.ofW (cc := cX1_inverse) (maxL := 3) (ret := (some .long)) (by decide) rfl ?_
  intro p e s m args below meth c s₁ B hml hv
  obtain ⟨rfl, hsz, hP, hK, hD0⟩ := hv
  have hx := B.exec
  have hb := B.bytes
  have hr := B.returns
  have hts := atoms_spec (ws := wsX1_inverse) B.pre
  have hown : s.vm.findClass RX1 = some m.cls := findClass_of_methodNamed B.named
  have hlocks := B.notSynchronized
  subst hsz
  have hD := hD0.self (sz := s.heap.size)
  generalize hAe : va_A [] s.heap.size = A at hD ⊢
  have hA : ∀ q : Nat, s.heap.size ≤ q → A q := fun q h => by rw [← hAe]; exact Or.inr h
  have hS : va_S A s.heap s.heap [] := va_S.rf
  have hP : va_P (dC, dI) vwCl [] s.heap := hP
  have hl := lv_entry (([.long (lI b), .int (nI P)] : List Value)) (n := 3) (Nat.le_of_ble_eq_true rfl)
  rw [lg_entry_eq]
  generalize (lg_sl (([.long (lI b), .int (nI P)] : List Value)) ++ List.replicate (3 - (lg_sl (([.long (lI b), .int (nI P)] : List Value))).length) Slot.unset).toArray = ls at hl ⊢
  have hl : lv_has ls 3 [(0, .long (lI b)), (2, .int (nI P))] := hl
  obtain ⟨H, hHe⟩ : ∃ H : Heap, H = s.heap := ⟨_, rfl⟩
  rw [← hHe] at hP
  have hS : va_S A s.heap H [] := by rw [hHe]; exact hS
  obtain ⟨locs, hlo⟩ : ∃ L : List Loc, L = [] := ⟨_, rfl⟩
  rw [← hlo] at hS ⊢
  rw [← hHe]
  refine lv_lload_n hx hb dX1_inverse_0 rfl (lv_at hl 0 rfl) ?_
  refine lv_iload_n hx hb dX1_inverse_1 rfl (lv_at hl 1 rfl) ?_
  refine lv_iconst (v := nI 2) hx hb dX1_inverse_2 (by decide) ?_
  refine lv_isub hx hb dX1_inverse_3 ?_
  refine W.eq (congrArg (fun z => F0 m _ ls (.int z :: _)) (show (nI P) - (nI 2) = nI (P - 2) from pk_sub (by omega))) ?_
  refine lv_iload_n hx hb dX1_inverse_4 rfl (lv_at hl 1 rfl) ?_
  have hPc := hP.sub (ws' := []) [] rfl
  have hDc := hD.sub (ws' := []) [] (by decide) rfl
  have hKc := hK.sub (tys' := []) [] rfl
  have hFc := va_free (wc := []) hD hS hA [] rfl
  refine va_calll (va_runS (As := [.long (lI b), .int (nI (P - 2)), .int (nI P)]) (rest := []) ⟨hx, hb, hml, hown, hts⟩ (c_X1_raise l dC dI b (P - 2) P H.size (by omega) (by omega) (by omega) (by omega) (by omega)) (va_cwS 3 hts gX1_inverse_X1_raise rfl rfl rfl (by decide +kernel) ⟨Nat.le_of_ble_eq_true rfl, Nat.le_of_ble_eq_true rfl⟩) ⟨fun a U g mk q => by obtain ⟨q0, q1, qP, qK, qD⟩ := q; exact ⟨q0, q1, qP, va_K.moved (u := U) (U := U.calling g mk a) (Vm.Alike.refl U.vm) qK, qD⟩, fun U hU hW => ⟨rfl, by rw [hU], by rw [hU]; exact hPc, va_K.moved hW.alike hKc, hDc.weaken (fun _ _ _ _ => trivial)⟩⟩ rfl rfl hl.1 rfl (lv_room (Nat.le_of_ble_eq_true rfl)) dX1_inverse_5 ⟨Nat.le_of_ble_eq_true rfl, Nat.le_of_ble_eq_true rfl⟩) hS (fun q _ h => hFc q h) hFc (fun r9 u9 t9 H1 locs ht hvm hw hB hz1 hk1 hS => ?_)
  obtain ⟨hP1, hD1⟩ := hB
  rw [ht] at hP1
  try dsimp only at hw
  obtain ⟨hP, hD⟩ := va_join (wr := []) (w1 := []) hP hD [] [] rfl rfl (by decide) (by decide) hk1 hFc hP1 hD1
  generalize H1 = H at hP hS ⊢
  have hP : va_P (dC, dI) vwCl [] H := hP
  have hD : va_D A [] := hD
  clear hPc hDc hKc hFc hP1 hD1 hk1 hz1 hvm ht
  subst hw
  have hP9 : va_P (dC, dI) vwCl [] H := hP.sub [] rfl
  have hD9 : va_D A [] := hD.sub [] (by decide) rfl
  exact W.lret (v := lI (b ^ (P - 2) % ((P : Nat) : Int))) hx hb hr (fun t ht hW => ⟨⟨lI (b ^ (P - 2) % ((P : Nat) : Int)), (), rfl, rfl, by rw [ht]; exact hP9, hD9⟩, hS.F ht⟩) hS.2.2 dX1_inverse_8

abbrev q_X1_rootOfOne (dC : Nat → ClassId) (dI : Nat → Nat → Nat) (k P : Nat) (A : Nat → Prop) : Array Value → State → Outcome → State → Prop := va_Ql (fun (r : Int64) (u : Unit) => r = lI (3 ^ ((P - 1) / 2 ^ k) % (P : Int))) (fun u t => va_P (dC, dI) vwCl [] t.heap ∧ va_D A []) A
set_option maxHeartbeats 4000000 in
set_option maxRecDepth 100000 in
theorem c_X1_rootOfOne (l : Launch) (dC : Nat → ClassId) (dI : Nat → Nat → Nat) (k P : Nat) (sz : Nat) (hk : k ≤ 9) (hp1 : 3 < P) (hp2 : P ≤ 2 ^ 30) : Met l yX1_rootOfOne wsX1_rootOfOne ({ frames := 1, cells := 0, slots := 0, locals := 28 }) (va_Pc [.int (nI k), .int (nI P)] (fun U => U.heap.size = sz ∧ va_P (dC, dI) vwCl [] U.heap ∧ va_K (dC, dI) vwCl [] U ∧ va_D (fun _ => True) [])) (q_X1_rootOfOne dC dI k P (va_A [] sz)) 0 0 (va_A [] sz) := by
  refine Met.ofW (cc := cX1_rootOfOne) (maxL := 2) (ret := (some .long)) (by decide) rfl ?_
  intro p e s m args below meth c s₁ B hml hv
  obtain ⟨rfl, hsz, hP, hK, hD0⟩ := hv
  have hx := B.exec
  have hb := B.bytes
  have hr := B.returns
  have hts := atoms_spec (ws := wsX1_rootOfOne) B.pre
  have hown : s.vm.findClass RX1 = some m.cls := findClass_of_methodNamed B.named
  have hlocks := B.notSynchronized
  subst hsz
  have hD := hD0.self (sz := s.heap.size)
  generalize hAe : va_A [] s.heap.size = A at hD ⊢
  have hA : ∀ q : Nat, s.heap.size ≤ q → A q := fun q h => by rw [← hAe]; exact Or.inr h
  have hS : va_S A s.heap s.heap [] := va_S.rf
  have hP : va_P (dC, dI) vwCl [] s.heap := hP
  have hl := lv_entry (([.int (nI k), .int (nI P)] : List Value)) (n := 2) (Nat.le_of_ble_eq_true rfl)
  rw [lg_entry_eq]
  generalize (lg_sl (([.int (nI k), .int (nI P)] : List Value)) ++ List.replicate (2 - (lg_sl (([.int (nI k), .int (nI P)] : List Value))).length) Slot.unset).toArray = ls at hl ⊢
  have hl : lv_has ls 2 [(0, .int (nI k)), (1, .int (nI P))] := hl
  obtain ⟨H, hHe⟩ : ∃ H : Heap, H = s.heap := ⟨_, rfl⟩
  rw [← hHe] at hP
  have hS : va_S A s.heap H [] := by rw [hHe]; exact hS
  obtain ⟨locs, hlo⟩ : ∃ L : List Loc, L = [] := ⟨_, rfl⟩
  rw [← hlo] at hS ⊢
  rw [← hHe]
  refine lv_ldc2 (own := RX1) (v := lI (3)) hx hb hown (hts (.constantLong RX1 13 (3)) (by decide +kernel)) dX1_rootOfOne_0 ?_
  refine lv_iload_n hx hb dX1_rootOfOne_3 rfl (lv_at hl 1 rfl) ?_
  refine lv_iconst (v := nI 1) hx hb dX1_rootOfOne_4 (by decide) ?_
  refine lv_isub hx hb dX1_rootOfOne_5 ?_
  refine W.eq (congrArg (fun z => F0 m _ ls (.int z :: _)) (show (nI P) - (nI 1) = nI (P - 1) from pk_sub (by omega))) ?_
  refine lv_iload_n hx hb dX1_rootOfOne_6 rfl (lv_at hl 0 rfl) ?_
  refine lv_ishr hx hb dX1_rootOfOne_7 ?_
  refine W.eq (congrArg (fun z => F0 m _ ls (.int z :: _)) (show (nI (P - 1)) >>> ((nI k) &&& 31) = nI ((P - 1) / 2 ^ k) from zz_shr (by omega) hk)) ?_
  refine lv_iload_n hx hb dX1_rootOfOne_8 rfl (lv_at hl 1 rfl) ?_
  have hdl := Nat.div_le_self (P - 1) (2 ^ k)
  have hPc := hP.sub (ws' := []) [] rfl
  have hDc := hD.sub (ws' := []) [] (by decide) rfl
  have hKc := hK.sub (tys' := []) [] rfl
  have hFc := va_free (wc := []) hD hS hA [] rfl
  refine va_calll (va_runS (As := [.long (lI 3), .int (nI ((P - 1) / 2 ^ k)), .int (nI P)]) (rest := []) ⟨hx, hb, hml, hown, hts⟩ (c_X1_raise l dC dI 3 ((P - 1) / 2 ^ k) P H.size (by omega) (by omega) (by omega) (by omega) (by omega)) (va_cwS 3 hts gX1_rootOfOne_X1_raise rfl rfl rfl (by decide +kernel) ⟨Nat.le_of_ble_eq_true rfl, Nat.le_of_ble_eq_true rfl⟩) ⟨fun a U g mk q => by obtain ⟨q0, q1, qP, qK, qD⟩ := q; exact ⟨q0, q1, qP, va_K.moved (u := U) (U := U.calling g mk a) (Vm.Alike.refl U.vm) qK, qD⟩, fun U hU hW => ⟨rfl, by rw [hU], by rw [hU]; exact hPc, va_K.moved hW.alike hKc, hDc.weaken (fun _ _ _ _ => trivial)⟩⟩ rfl rfl hl.1 rfl (lv_room (Nat.le_of_ble_eq_true rfl)) dX1_rootOfOne_9 ⟨Nat.le_of_ble_eq_true rfl, Nat.le_of_ble_eq_true rfl⟩) hS (fun q _ h => hFc q h) hFc (fun r9 u9 t9 H1 locs ht hvm hw hB hz1 hk1 hS => ?_)
  obtain ⟨hP1, hD1⟩ := hB
  rw [ht] at hP1
  try dsimp only at hw
  obtain ⟨hP, hD⟩ := va_join (wr := []) (w1 := []) hP hD [] [] rfl rfl (by decide) (by decide) hk1 hFc hP1 hD1
  generalize H1 = H at hP hS ⊢
  have hP : va_P (dC, dI) vwCl [] H := hP
  have hD : va_D A [] := hD
  clear hPc hDc hKc hFc hP1 hD1 hk1 hz1 hvm ht
  subst hw
  have hP9 : va_P (dC, dI) vwCl [] H := hP.sub [] rfl
  have hD9 : va_D A [] := hD.sub [] (by decide) rfl
  exact W.lret (v := lI (3 ^ ((P - 1) / 2 ^ k) % ((P : Nat) : Int))) hx hb hr (fun t ht hW => ⟨⟨lI (3 ^ ((P - 1) / 2 ^ k) % ((P : Nat) : Int)), (), rfl, rfl, by rw [ht]; exact hP9, hD9⟩, hS.F ht⟩) hS.2.2 dX1_rootOfOne_12
end
section
/-! the folder's rows as functions of whole numbers -/
theorem mul_b31 {a b c : Int} (ha : 0 ≤ a) (ha2 : a < 2 * c) (hb : 0 ≤ b) (hb2 : b < c) (hc : c ≤ 2 ^ 30) : 0 ≤ a * b ∧ a * b < 2 ^ 61 := by
  refine ⟨Int.mul_nonneg ha hb, ?_⟩
  have h1 : a * b ≤ a * (2 ^ 30 - 1) := Int.mul_le_mul_of_nonneg_left (by omega) ha
  have h2 : a * (2 ^ 30 - 1) ≤ (2 ^ 31 - 1) * (2 ^ 30 - 1) := Int.mul_le_mul_of_nonneg_right (by omega) (by omega)
  omega
theorem sub_emod1 {x P : Int} (h1 : P ≤ x) (h2 : x < 2 * P) : x - P = x % P := by
  rw [← Int.sub_emod_right, Int.emod_eq_of_lt (by omega) (by omega)]
theorem add_emod1 {x P : Int} (h1 : x < 0) (h2 : -P ≤ x) : x + P = x % P := by
  rw [← Int.add_emod_right, Int.emod_eq_of_lt (by omega) (by omega)]
theorem idx_lt {t h d N : Nat} (ht : t < h) (hd : 0 < d) (hh : h * d ≤ N) : t * d < N := Nat.lt_of_lt_of_le (Nat.mul_lt_mul_of_pos_right ht hd) hh
theorem emod_rng (x : Int) {P : Int} (hP : 0 < P) : 0 ≤ x % P ∧ x % P < P := ⟨Int.emod_nonneg x (by omega), Int.emod_lt_of_pos x hP⟩
def inR (F : Nat → Int) (N : Nat) (P : Int) : Prop := ∀ j, j < N → 0 ≤ F j ∧ F j < P
/-- the powers of w -/
def rpw (G : Nat → Int) (w : Int) (P : Int) (n : Nat) : Nat → Int := fun j => if j < n then w ^ j % P else G j
theorem rpw_1 (G : Nat → Int) (w : Int) {P : Int} (hP : 1 < P) : upI G 0 1 = rpw G w P 1 := by
  funext j
  unfold upI rpw
  by_cases h : j = 0
  · subst h
    rw [if_pos rfl, if_pos (by omega), Int.pow_zero, Int.emod_eq_of_lt (by omega) hP]
  · rw [if_neg h, if_neg (by omega)]
theorem rpw_p {G : Nat → Int} {w P : Int} {i : Nat} (hi : 0 < i) : rpw G w P i (i - 1) = w ^ (i - 1) % P := if_pos (by omega)
theorem rpw_s {G : Nat → Int} {w P : Int} {i : Nat} (hi : 0 < i) : upI (rpw G w P i) i (w ^ (i - 1) % P * w % P) = rpw G w P (i + 1) := by
  funext j
  unfold upI rpw
  by_cases h : j = i
  · subst h
    rw [if_pos rfl, if_pos (by omega)]
    obtain ⟨n, rfl⟩ : ∃ n, j = n + 1 := ⟨j - 1, by omega⟩
    rw [Nat.add_sub_cancel, Int.pow_succ, Int.mul_emod, Int.emod_emod, ← Int.mul_emod]
  · rw [if_neg h]
    by_cases h2 : j < i
    · rw [if_pos h2, if_pos (by omega)]
    · rw [if_neg h2, if_neg (by omega)]
theorem rpw_rng {G : Nat → Int} {w P : Int} {n N : Nat} (hP : 0 < P) (h : N ≤ n) : inR (rpw G w P n) N P := fun j hj => by
  unfold rpw
  rw [if_pos (by omega)]
  exact emod_rng _ hP
/-- a block taken apart, t of its h pairs -/
def spB (F G : Nat → Int) (a h d : Nat) (P : Int) (t : Nat) : Nat → Int := fun j => if a ≤ j ∧ j < a + t then (F j + F (j + h)) % P else if a + h ≤ j ∧ j < a + h + t then (F (j - h) - F j + P) * G ((j - a - h) * d) % P else F j
theorem spB_0 (F G : Nat → Int) (a h d : Nat) (P : Int) : spB F G a h d P 0 = F := by
  funext j
  unfold spB
  rw [if_neg (by omega), if_neg (by omega)]
theorem spB_a {F G : Nat → Int} {a h d : Nat} {P : Int} {t : Nat} (ht : t < h) : spB F G a h d P t (a + t) = F (a + t) := by
  unfold spB
  rw [if_neg (by omega), if_neg (by omega)]
theorem spB_b {F G : Nat → Int} {a h d : Nat} {P : Int} {t : Nat} (ht : t < h) : spB F G a h d P t (a + h + t) = F (a + h + t) := by
  unfold spB
  rw [if_neg (by omega), if_neg (by omega)]
theorem spB_s {F G : Nat → Int} {a h d : Nat} {P : Int} {t : Nat} (ht : t < h) : upI (upI (spB F G a h d P t) (a + t) ((F (a + t) + F (a + h + t)) % P)) (a + h + t) ((F (a + t) - F (a + h + t) + P) * G (t * d) % P) = spB F G a h d P (t + 1) := by
  funext j
  unfold upI spB
  by_cases h1 : j = a + h + t
  · subst h1
    rw [if_pos rfl, if_neg (by omega), if_pos (by omega), show a + h + t - h = a + t by omega, show a + h + t - a - h = t by omega]
  · rw [if_neg h1]
    by_cases h2 : j = a + t
    · subst h2
      rw [if_pos rfl, if_pos (by omega), show a + t + h = a + h + t by omega]
    · rw [if_neg h2]
      by_cases h3 : a ≤ j ∧ j < a + t
      · rw [if_pos h3, if_pos (by omega)]
      · have h5 : ¬ (a ≤ j ∧ j < a + (t + 1)) := by omega
        by_cases h4 : a + h ≤ j ∧ j < a + h + t
        · have h6 : a + h ≤ j ∧ j < a + h + (t + 1) := by omega
          rw [if_neg h3, if_pos h4, if_neg h5, if_pos h6]
        · have h6 : ¬ (a + h ≤ j ∧ j < a + h + (t + 1)) := by omega
          rw [if_neg h3, if_neg h4, if_neg h5, if_neg h6]
/-- a block put together -/
def jnB (F G : Nat → Int) (a h d : Nat) (P : Int) (t : Nat) : Nat → Int := fun j => if a ≤ j ∧ j < a + t then (F j + F (j + h) * G ((j - a) * d) % P) % P else if a + h ≤ j ∧ j < a + h + t then (F (j - h) - F j * G ((j - a - h) * d) % P) % P else F j
theorem jnB_0 (F G : Nat → Int) (a h d : Nat) (P : Int) : jnB F G a h d P 0 = F := by
  funext j
  unfold jnB
  rw [if_neg (by omega), if_neg (by omega)]
theorem jnB_a {F G : Nat → Int} {a h d : Nat} {P : Int} {t : Nat} (ht : t < h) : jnB F G a h d P t (a + t) = F (a + t) := by
  unfold jnB
  rw [if_neg (by omega), if_neg (by omega)]
theorem jnB_b {F G : Nat → Int} {a h d : Nat} {P : Int} {t : Nat} (ht : t < h) : jnB F G a h d P t (a + h + t) = F (a + h + t) := by
  unfold jnB
  rw [if_neg (by omega), if_neg (by omega)]
theorem jnB_s {F G : Nat → Int} {a h d : Nat} {P : Int} {t : Nat} (ht : t < h) : upI (upI (jnB F G a h d P t) (a + t) ((F (a + t) + F (a + h + t) * G (t * d) % P) % P)) (a + h + t) ((F (a + t) - F (a + h + t) * G (t * d) % P) % P) = jnB F G a h d P (t + 1) := by
  funext j
  unfold upI jnB
  by_cases h1 : j = a + h + t
  · subst h1
    rw [if_pos rfl, if_neg (by omega), if_pos (by omega), show a + h + t - h = a + t by omega, show a + h + t - a - h = t by omega]
  · rw [if_neg h1]
    by_cases h2 : j = a + t
    · subst h2
      rw [if_pos rfl, if_pos (by omega), show a + t + h = a + h + t by omega, show a + t - a = t by omega]
    · rw [if_neg h2]
      by_cases h3 : a ≤ j ∧ j < a + t
      · rw [if_pos h3, if_pos (by omega)]
      · have h5 : ¬ (a ≤ j ∧ j < a + (t + 1)) := by omega
        by_cases h4 : a + h ≤ j ∧ j < a + h + t
        · have h6 : a + h ≤ j ∧ j < a + h + (t + 1) := by omega
          rw [if_neg h3, if_pos h4, if_neg h5, if_pos h6]
        · have h6 : ¬ (a + h ≤ j ∧ j < a + h + (t + 1)) := by omega
          rw [if_neg h3, if_neg h4, if_neg h5, if_neg h6]
/-- all blocks below a taken apart -/
def spP (F G : Nat → Int) (h d : Nat) (P : Int) (a : Nat) : Nat → Int := fun j => if j < a then (if j % (2 * h) < h then (F j + F (j + h)) % P else (F (j - h) - F j + P) * G ((j % (2 * h) - h) * d) % P) else F j
def jnP (F G : Nat → Int) (h d : Nat) (P : Int) (a : Nat) : Nat → Int := fun j => if j < a then (if j % (2 * h) < h then (F j + F (j + h) * G (j % (2 * h) * d) % P) % P else (F (j - h) - F j * G ((j % (2 * h) - h) * d) % P) % P) else F j
theorem spP_0 (F G : Nat → Int) (h d : Nat) (P : Int) : spP F G h d P 0 = F := by
  funext j
  unfold spP
  rw [if_neg (by omega)]
theorem jnP_0 (F G : Nat → Int) (h d : Nat) (P : Int) : jnP F G h d P 0 = F := by
  funext j
  unfold jnP
  rw [if_neg (by omega)]
theorem spP_lt {F G : Nat → Int} {h d : Nat} {P : Int} {a j : Nat} (hj : j < a) : spP F G h d P a j = if j % (2 * h) < h then (F j + F (j + h)) % P else (F (j - h) - F j + P) * G ((j % (2 * h) - h) * d) % P := if_pos hj
theorem spP_ge {F G : Nat → Int} {h d : Nat} {P : Int} {a j : Nat} (hj : a ≤ j) : spP F G h d P a j = F j := if_neg (by omega)
theorem jnP_lt {F G : Nat → Int} {h d : Nat} {P : Int} {a j : Nat} (hj : j < a) : jnP F G h d P a j = if j % (2 * h) < h then (F j + F (j + h) * G (j % (2 * h) * d) % P) % P else (F (j - h) - F j * G ((j % (2 * h) - h) * d) % P) % P := if_pos hj
theorem jnP_ge {F G : Nat → Int} {h d : Nat} {P : Int} {a j : Nat} (hj : a ≤ j) : jnP F G h d P a j = F j := if_neg (by omega)
theorem blk_mod {a h j : Nat} (hd : a % (2 * h) = 0) (h1 : a ≤ j) (h2 : j < a + 2 * h) : j % (2 * h) = j - a := by
  obtain ⟨t, rfl⟩ : ∃ t, j = a + t := ⟨j - a, by omega⟩
  rw [Nat.add_mod, hd, Nat.zero_add, Nat.mod_mod, Nat.mod_eq_of_lt (by omega)]
  omega
theorem spP_s {F G : Nat → Int} {h d : Nat} {P : Int} {a : Nat} (hd : a % (2 * h) = 0) : spB (spP F G h d P a) G a h d P h = spP F G h d P (a + 2 * h) := by
  funext j
  unfold spB
  by_cases h1 : a ≤ j ∧ j < a + h
  · rw [if_pos h1, spP_ge h1.1, spP_ge (show a ≤ j + h by omega), spP_lt (show j < a + 2 * h by omega), blk_mod hd h1.1 (by omega), if_pos (show j - a < h by omega)]
  · by_cases h2 : a + h ≤ j ∧ j < a + h + h
    · rw [if_neg h1, if_pos h2, spP_ge (show a ≤ j by omega), spP_ge (show a ≤ j - h by omega), spP_lt (show j < a + 2 * h by omega), blk_mod hd (by omega) (by omega), if_neg (show ¬ j - a < h by omega)]
    · rw [if_neg h1, if_neg h2]
      by_cases h3 : j < a
      · rw [spP_lt h3, spP_lt (show j < a + 2 * h by omega)]
      · rw [spP_ge (show a ≤ j by omega), spP_ge (show a + 2 * h ≤ j by omega)]
theorem jnP_s {F G : Nat → Int} {h d : Nat} {P : Int} {a : Nat} (hd : a % (2 * h) = 0) : jnB (jnP F G h d P a) G a h d P h = jnP F G h d P (a + 2 * h) := by
  funext j
  unfold jnB
  by_cases h1 : a ≤ j ∧ j < a + h
  · rw [if_pos h1, jnP_ge h1.1, jnP_ge (show a ≤ j + h by omega), jnP_lt (show j < a + 2 * h by omega), blk_mod hd h1.1 (by omega), if_pos (show j - a < h by omega)]
  · by_cases h2 : a + h ≤ j ∧ j < a + h + h
    · rw [if_neg h1, if_pos h2, jnP_ge (show a ≤ j by omega), jnP_ge (show a ≤ j - h by omega), jnP_lt (show j < a + 2 * h by omega), blk_mod hd (by omega) (by omega), if_neg (show ¬ j - a < h by omega)]
    · rw [if_neg h1, if_neg h2]
      by_cases h3 : j < a
      · rw [jnP_lt h3, jnP_lt (show j < a + 2 * h by omega)]
      · rw [jnP_ge (show a ≤ j by omega), jnP_ge (show a + 2 * h ≤ j by omega)]
theorem spP_rng {F G : Nat → Int} {h d : Nat} {P : Int} {a N : Nat} (hP : 0 < P) (hF : inR F N P) : inR (spP F G h d P a) N P := fun j hj => by
  unfold spP
  split
  · split <;> exact emod_rng _ hP
  · exact hF j hj
theorem jnP_rng {F G : Nat → Int} {h d : Nat} {P : Int} {a N : Nat} (hP : 0 < P) (hF : inR F N P) : inR (jnP F G h d P a) N P := fun j hj => by
  unfold jnP
  split
  · split <;> exact emod_rng _ hP
  · exact hF j hj
/-- n levels taken apart, the widest first; n levels put together, the narrowest first -/
def fwd (F G : Nat → Int) (k : Nat) (P : Int) : Nat → Nat → Int
  | 0 => F
  | n + 1 => spP (fwd F G k P n) G (2 ^ (k - 1 - n)) (2 ^ k / (2 * 2 ^ (k - 1 - n))) P (2 ^ k)
def bwd (F G : Nat → Int) (k : Nat) (P : Int) : Nat → Nat → Int
  | 0 => F
  | n + 1 => jnP (bwd F G k P n) G (2 ^ n) (2 ^ k / (2 * 2 ^ n)) P (2 ^ k)
theorem fwd_rng {F G : Nat → Int} {k : Nat} {P : Int} {N : Nat} (hP : 0 < P) (hF : inR F N P) : ∀ n, inR (fwd F G k P n) N P
  | 0 => hF
  | n + 1 => spP_rng hP (fwd_rng hP hF n)
theorem bwd_rng {F G : Nat → Int} {k : Nat} {P : Int} {N : Nat} (hP : 0 < P) (hF : inR F N P) : ∀ n, inR (bwd F G k P n) N P
  | 0 => hF
  | n + 1 => jnP_rng hP (bwd_rng hP hF n)
/-- the first n multiplied -/
def mlW (F : Nat → Int) (w P : Int) (n : Nat) : Nat → Int := fun j => if j < n then F j * w % P else F j
theorem mlW_0 (F : Nat → Int) (w P : Int) : mlW F w P 0 = F := by
  funext j
  unfold mlW
  rw [if_neg (by omega)]
theorem mlW_i {F : Nat → Int} {w P : Int} {i : Nat} : mlW F w P i i = F i := if_neg (by omega)
theorem mlW_s {F : Nat → Int} {w P : Int} {i : Nat} : upI (mlW F w P i) i (F i * w % P) = mlW F w P (i + 1) := by
  funext j
  unfold upI mlW
  by_cases h : j = i
  · subst h
    rw [if_pos rfl, if_pos (by omega)]
  · rw [if_neg h]
    by_cases h2 : j < i
    · rw [if_pos h2, if_pos (by omega)]
    · rw [if_neg h2, if_neg (by omega)]
def mlF (F K : Nat → Int) (P : Int) (n : Nat) : Nat → Int := fun j => if j < n then F j * K j % P else F j
theorem mlF_0 (F K : Nat → Int) (P : Int) : mlF F K P 0 = F := by
  funext j
  unfold mlF
  rw [if_neg (by omega)]
theorem mlF_i {F K : Nat → Int} {P : Int} {i : Nat} : mlF F K P i i = F i := if_neg (by omega)
theorem mlF_s {F K : Nat → Int} {P : Int} {i : Nat} : upI (mlF F K P i) i (F i * K i % P) = mlF F K P (i + 1) := by
  funext j
  unfold upI mlF
  by_cases h : j = i
  · subst h
    rw [if_pos rfl, if_pos (by omega)]
  · rw [if_neg h]
    by_cases h2 : j < i
    · rw [if_pos h2, if_pos (by omega)]
    · rw [if_neg h2, if_neg (by omega)]
theorem mlF_rng {F K : Nat → Int} {P : Int} {n N : Nat} (hP : 0 < P) (hF : inR F N P) : inR (mlF F K P n) N P := fun j hj => by
  unfold mlF
  split
  · exact emod_rng _ hP
  · exact hF j hj
/-- loaded: the first n hold the row's remainders, the next n 0 -/
def ldR (f : Nat → Int32) (F : Nat → Int) (n : Nat) (P : Int) (t : Nat) : Nat → Int := fun j => if j < t then (f j).toInt % P else if n ≤ j ∧ j < n + t then 0 else F j
theorem ldR_0 (f : Nat → Int32) (F : Nat → Int) (n : Nat) (P : Int) : ldR f F n P 0 = F := by
  funext j
  unfold ldR
  rw [if_neg (by omega), if_neg (by omega)]
theorem ldR_s {f : Nat → Int32} {F : Nat → Int} {n : Nat} {P : Int} {t : Nat} (ht : t < n) : upI (upI (ldR f F n P t) t ((f t).toInt % P)) (t + n) 0 = ldR f F n P (t + 1) := by
  funext j
  unfold upI ldR
  by_cases h1 : j = t + n
  · rw [if_pos h1, if_neg (by omega), if_pos (by omega)]
  · rw [if_neg h1]
    by_cases h2 : j = t
    · subst h2
      rw [if_pos rfl, if_pos (by omega)]
    · rw [if_neg h2]
      by_cases h3 : j < t
      · rw [if_pos h3, if_pos (by omega)]
      · have h5 : ¬ j < t + 1 := by omega
        by_cases h4 : n ≤ j ∧ j < n + t
        · have h6 : n ≤ j ∧ j < n + (t + 1) := by omega
          rw [if_neg h3, if_pos h4, if_neg h5, if_pos h6]
        · have h6 : ¬ (n ≤ j ∧ j < n + (t + 1)) := by omega
          rw [if_neg h3, if_neg h4, if_neg h5, if_neg h6]
theorem ldR_rng {f : Nat → Int32} {F : Nat → Int} {n : Nat} {P : Int} {N : Nat} (hP : 0 < P) (hF : inR F N P) : inR (ldR f F n P n) N P := fun j hj => by
  unfold ldR
  split
  · exact emod_rng _ hP
  · split
    · exact ⟨by omega, hP⟩
    · exact hF j hj
/-- the upper half taken away -/
def tkU (F : Nat → Int) (n : Nat) (P : Int) (t : Nat) : Nat → Int := fun j => if j < t then (F j - F (j + n)) % P else F j
theorem tkU_0 (F : Nat → Int) (n : Nat) (P : Int) : tkU F n P 0 = F := by
  funext j
  unfold tkU
  rw [if_neg (by omega)]
theorem tkU_i {F : Nat → Int} {n : Nat} {P : Int} {t : Nat} : tkU F n P t t = F t := if_neg (by omega)
theorem tkU_n {F : Nat → Int} {n : Nat} {P : Int} {t : Nat} (h : t < n) : tkU F n P t (t + n) = F (t + n) := if_neg (by omega)
theorem tkU_s {F : Nat → Int} {n : Nat} {P : Int} {t : Nat} : upI (tkU F n P t) t ((F t - F (t + n)) % P) = tkU F n P (t + 1) := by
  funext j
  unfold upI tkU
  by_cases h : j = t
  · subst h
    rw [if_pos rfl, if_pos (by omega)]
  · rw [if_neg h]
    by_cases h2 : j < t
    · rw [if_pos h2, if_pos (by omega)]
    · rw [if_neg h2, if_neg (by omega)]
theorem tkU_rng {F : Nat → Int} {n : Nat} {P : Int} {t N : Nat} (hP : 0 < P) (hF : inR F N P) : inR (tkU F n P t) N P := fun j hj => by
  unfold tkU
  split
  · exact emod_rng _ hP
  · exact hF j hj
/-- ints stored -/
def stR (g : Nat → Int32) (F : Nat → Int) (t : Nat) : Nat → Int32 := fun j => if j < t then iI (F j) else g j
theorem stR_0 (g : Nat → Int32) (F : Nat → Int) : stR g F 0 = g := by
  funext j
  unfold stR
  rw [if_neg (by omega)]
theorem stR_s {g : Nat → Int32} {F : Nat → Int} {t : Nat} : upd (stR g F t) t (iI (F t)) = stR g F (t + 1) := by
  funext j
  unfold upd stR
  by_cases h : j = t
  · subst h
    simp
  · by_cases h2 : j < t
    · simp [h, h2, Nat.lt_succ_of_lt h2]
    · simp [h, h2, show ¬ j < t + 1 by omega]
theorem zz_shl {k : Nat} (hk : k ≤ 9) : nI 1 <<< (nI k &&& 31) = nI (2 ^ k) := by
  have : ∀ j : Nat, j < 10 → nI 1 <<< (nI j &&& 31) = nI (2 ^ j) := by decide +kernel
  exact this k (by omega)
theorem pw9 {k : Nat} (hk : k ≤ 9) : 1 ≤ 2 ^ k ∧ 2 ^ k ≤ 512 := by
  have : ∀ j : Nat, j < 10 → 1 ≤ 2 ^ j ∧ 2 ^ j ≤ 512 := by decide
  exact this k (by omega)
theorem pw8 {k : Nat} (hk : k ≤ 8) : 1 ≤ 2 ^ k ∧ 2 ^ k ≤ 256 := by
  have : ∀ j : Nat, j < 9 → 1 ≤ 2 ^ j ∧ 2 ^ j ≤ 256 := by decide
  exact this k (by omega)
/-- how a level's blocks fill the row -/
theorem lvl {k v : Nat} (hk : k ≤ 9) (hv : v < k) : 2 ^ k = 2 ^ k / (2 * 2 ^ v) * (2 * 2 ^ v) ∧ 0 < 2 ^ k / (2 * 2 ^ v) ∧ 2 ^ v * (2 ^ k / (2 * 2 ^ v)) ≤ 2 ^ k / 2 ∧ 1 ≤ 2 ^ v ∧ 2 * 2 ^ v ≤ 2 ^ k := by
  have : ∀ k : Nat, k < 10 → ∀ v : Nat, v < k → 2 ^ k = 2 ^ k / (2 * 2 ^ v) * (2 * 2 ^ v) ∧ 0 < 2 ^ k / (2 * 2 ^ v) ∧ 2 ^ v * (2 ^ k / (2 * 2 ^ v)) ≤ 2 ^ k / 2 ∧ 1 ≤ 2 ^ v ∧ 2 * 2 ^ v ≤ 2 ^ k := by decide
  exact this k (by omega) v hv
theorem blk_next {a h n q : Nat} (hd : a % (2 * h) = 0) (hn : n = q * (2 * h)) (ha : a < n) (hh : 1 ≤ h) : a + 2 * h ≤ n ∧ (a + 2 * h) % (2 * h) = 0 := by
  obtain ⟨b, rfl⟩ : ∃ b, a = b * (2 * h) := ⟨a / (2 * h), by have := Nat.div_add_mod a (2 * h); rw [hd, Nat.add_zero, Nat.mul_comm] at this; exact this.symm⟩
  subst hn
  have hb : b < q := Nat.lt_of_mul_lt_mul_right ha
  have h1 : (b + 1) * (2 * h) ≤ q * (2 * h) := Nat.mul_le_mul_right _ hb
  rw [Nat.add_mul, Nat.one_mul] at h1
  exact ⟨h1, by rw [Nat.add_mod_right]; exact hd⟩
/-- a counter that goes down to -1: n - 1 -/
def zm (n : Nat) : Int32 := nI n + (-1)
theorem zm_i (n : Nat) : nI n - nI 1 = zm n := by
  unfold zm
  rw [Int32.sub_eq_add_neg]
  rfl
theorem zm_s (n : Nat) : zm (n + 1) = nI n := pk_m1 n
theorem zm_0 : zm 0 < 0 := by decide
end
section
abbrev q_X0_listRootPowers (dC : Nat → ClassId) (dI : Nat → Nat → Nat) (cJ : ClassId) (hh lf rt rp : Nat) (G : Nat → Int) (w : Int) (n P : Nat) (A : Nat → Prop) : Array Value → State → Outcome → State → Prop := va_Qv (fun (u : Unit) => True) (fun u t => va_P (dC, dI) vwCl [(hh, .inr (0, [.ref lf, .ref rt, .ref rp])), (rp, .inl (cJ, 256, .inr (.inl (fun j => lI ((rpw G w P n) j)))))] t.heap ∧ va_D A [(hh, .inr (0, [.ref lf, .ref rt, .ref rp])), (rp, .inl (cJ, 256, .inr (.inl (fun j => lI ((rpw G w P n) j)))))]) A
set_option maxHeartbeats 4000000 in
set_option maxRecDepth 100000 in
theorem c_X0_listRootPowers (l : Launch) (dC : Nat → ClassId) (dI : Nat → Nat → Nat) (cJ : ClassId) (hh lf rt rp : Nat) (G : Nat → Int) (w : Int) (n P : Nat) (sz : Nat) (zw0 : 0 ≤ w) (zw1 : w < P) (zn1 : 1 ≤ n) (zn2 : n ≤ 256) (hp1 : 1 < P) (hp2 : P ≤ 2 ^ 30) : Met l yX0_listRootPowers wsX0_listRootPowers ({ frames := 0, cells := 0, slots := 0, locals := 0 }) (va_Pc [.ref hh, .long (lI w), .int (nI n), .int (nI P)] (fun U => U.heap.size = sz ∧ va_P (dC, dI) vwCl [(hh, .inr (0, [.ref lf, .ref rt, .ref rp])), (rp, .inl (cJ, 256, .inr (.inl (fun j => lI (G j)))))] U.heap ∧ va_K (dC, dI) vwCl [(cJ, .long)] U ∧ va_D (fun _ => True) [(hh, .inr (0, [.ref lf, .ref rt, .ref rp])), (rp, .inl (cJ, 256, .inr (.inl (fun j => lI (G j)))))])) (q_X0_listRootPowers dC dI cJ hh lf rt rp G w n P (va_A [(hh, .inr (0, [.ref lf, .ref rt, .ref rp])), (rp, .inl (cJ, 256, .inr (.inl (fun j => lI (G j)))))] sz)) 0 0 (va_A [(hh, .inr (0, [.ref lf, .ref rt, .ref rp])), (rp, .inl (cJ, 256, .inr (.inl (fun j => lI (G j)))))] sz) := by
  refine Met.ofW (cc := cX0_listRootPowers) (maxL := 6) (ret := none) (by decide) rfl ?_
  intro p e s m args below meth c s₁ B hml hv
  obtain ⟨rfl, hsz, hP, hK, hD0⟩ := hv
  have hx := B.exec
  have hb := B.bytes
  have hr := B.returns
  have hts := atoms_spec (ws := wsX0_listRootPowers) B.pre
  have hown : s.vm.findClass RX0 = some m.cls := findClass_of_methodNamed B.named
  have hlocks := B.notSynchronized
  subst hsz
  have hD := hD0.self (sz := s.heap.size)
  generalize hAe : va_A [(hh, .inr (0, [.ref lf, .ref rt, .ref rp])), (rp, .inl (cJ, 256, .inr (.inl (fun j => lI (G j)))))] s.heap.size = A at hD ⊢
  have hA : ∀ q : Nat, s.heap.size ≤ q → A q := fun q h => by rw [← hAe]; exact Or.inr h
  have hS : va_S A s.heap s.heap [] := va_S.rf
  have hP : va_P (dC, dI) vwCl [(hh, .inr (0, [.ref lf, .ref rt, .ref rp])), (rp, .inl (cJ, 256, .inr (.inl (fun j => lI (G j)))))] s.heap := hP
  have hl := lv_entry (([.ref hh, .long (lI w), .int (nI n), .int (nI P)] : List Value)) (n := 6) (Nat.le_of_ble_eq_true rfl)
  rw [lg_entry_eq]
  generalize (lg_sl (([.ref hh, .long (lI w), .int (nI n), .int (nI P)] : List Value)) ++ List.replicate (6 - (lg_sl (([.ref hh, .long (lI w), .int (nI n), .int (nI P)] : List Value))).length) Slot.unset).toArray = ls at hl ⊢
  have hl : lv_has ls 6 [(0, .ref hh), (1, .long (lI w)), (3, .int (nI n)), (4, .int (nI P))] := hl
  obtain ⟨H, hHe⟩ : ∃ H : Heap, H = s.heap := ⟨_, rfl⟩
  rw [← hHe] at hP
  have hS : va_S A s.heap H [] := by rw [hHe]; exact hS
  obtain ⟨locs, hlo⟩ : ∃ L : List Loc, L = [] := ⟨_, rfl⟩
  rw [← hlo] at hS ⊢
  rw [← hHe]
  refine lv_aload_n hx hb dX0_listRootPowers_0 rfl (lv_at hl 0 rfl) ?_
  refine va_get (D := (dC, dI)) (ci := 0) (v := .ref rp) (C := RX0) (T := TX0) (N := 3) hx hb hts (by decide +kernel) hown hK hP 0 rfl rfl 2 (by decide) (hts (.fieldLink RX0 18 "ThreePrimes$Folder" "rootPowers" "[J") (by decide +kernel)) (fun _ h9 => h9) rfl dX0_listRootPowers_1 ?_
  refine lv_iconst (v := nI 0) hx hb dX0_listRootPowers_4 (by decide) ?_
  refine lv_lconst (v := lI 1) hx hb dX0_listRootPowers_5 (by decide) ?_
  refine va_last hx hb hK hP hD hS 1 0 rfl rfl (vp_in_nI (by omega) (by omega)) dX0_listRootPowers_6 (fun H locs hP hD hS => ?_)
  rw [nI_clamp (show 0 < 2 ^ 31 by omega)] at hP hD
  rw [upI_l] at hP hD
  have hP : va_P (dC, dI) vwCl [(hh, .inr (0, [.ref lf, .ref rt, .ref rp])), (rp, .inl (cJ, 256, .inr (.inl (fun j => lI ((upI G 0 1) j)))))] H := hP
  have hD : va_D A [(hh, .inr (0, [.ref lf, .ref rt, .ref rp])), (rp, .inl (cJ, 256, .inr (.inl (fun j => lI ((upI G 0 1) j)))))] := hD
  rw [show upI G 0 1 = rpw G w P 1 from rpw_1 G w (by omega)] at hP hD
  have hP : va_P (dC, dI) vwCl [(hh, .inr (0, [.ref lf, .ref rt, .ref rp])), (rp, .inl (cJ, 256, .inr (.inl (fun j => lI ((rpw G w P 1) j)))))] H := hP
  have hD : va_D A [(hh, .inr (0, [.ref lf, .ref rt, .ref rp])), (rp, .inl (cJ, 256, .inr (.inl (fun j => lI ((rpw G w P 1) j)))))] := hD
  refine lv_iconst (v := nI 1) hx hb dX0_listRootPowers_7 (by decide) ?_
  refine lv_istore (lv' := [(5, .int (nI 1)), (0, .ref hh), (1, .long (lI w)), (3, .int (nI n)), (4, .int (nI P))]) hx hb dX0_listRootPowers_8 hl (by decide) rfl (fun ls hl => ?_)
  have key_10 : ∀ (fuel : Nat) (i : Nat), (1 ≤ i) → (i ≤ n) → (n - i < fuel) → ∀ (H : Heap) (locs : List Loc) (ls : Array Slot), va_P (dC, dI) vwCl [(hh, .inr (0, [.ref lf, .ref rt, .ref rp])), (rp, .inl (cJ, 256, .inr (.inl (fun j => lI ((rpw G w P i) j)))))] H → va_D A [(hh, .inr (0, [.ref lf, .ref rt, .ref rp])), (rp, .inl (cJ, 256, .inr (.inl (fun j => lI ((rpw G w P i) j)))))] → va_S A s.heap H locs → lv_has ls 6 [(5, .int (nI i)), (4, .int (nI P)), (3, .int (nI n)), (1, .long (lI w)), (0, .ref hh)] → W p l e (headSpec wsX0_listRootPowers { frames := 0, cells := 0, slots := 0, locals := 0 }).room s m ([.ref hh, .long (lI w), .int (nI n), .int (nI P)] : List Value).toArray below meth c H locs 0 0 (MQ below (q_X0_listRootPowers dC dI cJ hh lf rt rp G w n P  A) ([.ref hh, .long (lI w), .int (nI n), .int (nI P)] : List Value).toArray s 0 0 A) (F0 m 10 ls []) := by
    intro fuel
    induction fuel with
    | zero => intro i; intros; omega
    | succ fuel ih_10 =>
      intro i hi1 hi2 hfu H locs ls hP hD hS hl
      refine lv_iload hx hb dX0_listRootPowers_10 (lv_at hl 0 rfl) ?_
      refine lv_iload_n hx hb dX0_listRootPowers_12 rfl (lv_at hl 2 rfl) ?_
      refine lv_icmp_ge (tgt := 44) hx hb dX0_listRootPowers_13 (by decide) (fun c_1 => ?_) (fun c_1 => ?_)
      · have c_1 : n ≤ i := (nI_leI (a := n) (b := i) (by omega) (by omega)).mp c_1
        rw [show rpw G w P i = rpw G w P n from by rw [show i = n by omega]] at hP hD
        have hP : va_P (dC, dI) vwCl [(hh, .inr (0, [.ref lf, .ref rt, .ref rp])), (rp, .inl (cJ, 256, .inr (.inl (fun j => lI ((rpw G w P n) j)))))] H := hP
        have hD : va_D A [(hh, .inr (0, [.ref lf, .ref rt, .ref rp])), (rp, .inl (cJ, 256, .inr (.inl (fun j => lI ((rpw G w P n) j)))))] := hD
        have hP9 : va_P (dC, dI) vwCl [(hh, .inr (0, [.ref lf, .ref rt, .ref rp])), (rp, .inl (cJ, 256, .inr (.inl (fun j => lI ((rpw G w P n) j)))))] H := hP.sub [0, 1] rfl
        have hD9 : va_D A [(hh, .inr (0, [.ref lf, .ref rt, .ref rp])), (rp, .inl (cJ, 256, .inr (.inl (fun j => lI ((rpw G w P n) j)))))] := hD.sub [0, 1] (by decide) rfl
        exact W.vret hx hb hr (fun t ht hW => ⟨⟨(), rfl, trivial, by rw [ht]; exact hP9, hD9⟩, hS.F ht⟩) hS.2.2 dX0_listRootPowers_44
      · have c_1 : ¬ (n ≤ i) := fun zq9 => c_1 ((nI_leI (a := n) (b := i) (by omega) (by omega)).mpr zq9)
        refine lv_aload_n hx hb dX0_listRootPowers_16 rfl (lv_at hl 4 rfl) ?_
        refine va_get (D := (dC, dI)) (ci := 0) (v := .ref rp) (C := RX0) (T := TX0) (N := 3) hx hb hts (by decide +kernel) hown hK hP 0 rfl rfl 2 (by decide) (hts (.fieldLink RX0 18 "ThreePrimes$Folder" "rootPowers" "[J") (by decide +kernel)) (fun _ h9 => h9) rfl dX0_listRootPowers_17 ?_
        refine lv_iload hx hb dX0_listRootPowers_20 (lv_at hl 0 rfl) ?_
        refine lv_aload_n hx hb dX0_listRootPowers_22 rfl (lv_at hl 4 rfl) ?_
        refine va_get (D := (dC, dI)) (ci := 0) (v := .ref rp) (C := RX0) (T := TX0) (N := 3) hx hb hts (by decide +kernel) hown hK hP 0 rfl rfl 2 (by decide) (hts (.fieldLink RX0 18 "ThreePrimes$Folder" "rootPowers" "[J") (by decide +kernel)) (fun _ h9 => h9) rfl dX0_listRootPowers_23 ?_
        refine lv_iload hx hb dX0_listRootPowers_26 (lv_at hl 0 rfl) ?_
        refine lv_iconst (v := nI 1) hx hb dX0_listRootPowers_28 (by decide) ?_
        refine lv_isub hx hb dX0_listRootPowers_29 ?_
        refine W.eq (congrArg (fun z => F0 m _ ls (.int z :: _)) (show (nI i) - (nI 1) = nI (i - 1) from pk_sub (by omega))) ?_
        refine va_lald hx hb hK hP 1 0 rfl rfl (vp_in_nI (by omega) (by omega)) dX0_listRootPowers_30 ?_
        refine W.eq (g2 := F0 m _ ls [.long (lI ((rpw G w P i) (i - 1))), .int (nI i), .ref rp]) (by rw [nI_clamp (by omega)]) ?_
        refine W.eq (congrArg (fun z => F0 m _ ls (.long z :: _)) (show lI ((rpw G w P i) (i - 1)) = lI (w ^ (i - 1) % (P : Int)) from congrArg lI (rpw_p (by omega)))) ?_
        refine lv_lload_n hx hb dX0_listRootPowers_31 rfl (lv_at hl 3 rfl) ?_
        have b1 := emod_rng (w ^ (i - 1)) (show (0 : Int) < P by omega)
        have b2 := mul_b30 b1.1 b1.2 zw0 zw1 (by omega)
        refine lv_lmul hx hb dX0_listRootPowers_32 ?_
        refine W.eq (congrArg (fun z => F0 m _ ls (.long z :: _)) (show lI (w ^ (i - 1) % (P : Int)) * lI w = lI ((w ^ (i - 1) % (P : Int)) * w) from lI_mul (w ^ (i - 1) % (P : Int)) w)) ?_
        refine lv_iload hx hb dX0_listRootPowers_33 (lv_at hl 1 rfl) ?_
        refine lv_i2l (v := lI ((P : Nat) : Int)) hx hb dX0_listRootPowers_35 (nI_lI (by omega)) ?_
        refine lv_lrem hx hb dX0_listRootPowers_36 (fun zq9 => absurd ((lI_eq (b := 0) (by omega) (by omega) (by omega) (by omega)).mp zq9) (by omega)) ?_
        refine W.eq (congrArg (fun z => F0 m _ ls (.long z :: _)) (show lI ((w ^ (i - 1) % (P : Int)) * w) - lI ((w ^ (i - 1) % (P : Int)) * w) / lI ((P : Nat) : Int) * lI ((P : Nat) : Int) = lI (((w ^ (i - 1) % (P : Int)) * w) % ((P : Nat) : Int)) from lI_rem0 (by omega) (by omega) (by omega) (by omega))) ?_
        refine va_last hx hb hK hP hD hS 1 0 rfl rfl (vp_in_nI (by omega) (by omega)) dX0_listRootPowers_37 (fun H locs hP hD hS => ?_)
        rw [nI_clamp (show i < 2 ^ 31 by omega)] at hP hD
        rw [upI_l] at hP hD
        have hP : va_P (dC, dI) vwCl [(hh, .inr (0, [.ref lf, .ref rt, .ref rp])), (rp, .inl (cJ, 256, .inr (.inl (fun j => lI ((upI (rpw G w P i) i (((w ^ (i - 1) % (P : Int)) * w) % ((P : Nat) : Int))) j)))))] H := hP
        have hD : va_D A [(hh, .inr (0, [.ref lf, .ref rt, .ref rp])), (rp, .inl (cJ, 256, .inr (.inl (fun j => lI ((upI (rpw G w P i) i (((w ^ (i - 1) % (P : Int)) * w) % ((P : Nat) : Int))) j)))))] := hD
        rw [show upI (rpw G w P i) i (((w ^ (i - 1) % (P : Int)) * w) % ((P : Nat) : Int)) = rpw G w P (i + 1) from rpw_s (by omega)] at hP hD
        have hP : va_P (dC, dI) vwCl [(hh, .inr (0, [.ref lf, .ref rt, .ref rp])), (rp, .inl (cJ, 256, .inr (.inl (fun j => lI ((rpw G w P (i + 1)) j)))))] H := hP
        have hD : va_D A [(hh, .inr (0, [.ref lf, .ref rt, .ref rp])), (rp, .inl (cJ, 256, .inr (.inl (fun j => lI ((rpw G w P (i + 1)) j)))))] := hD
        refine lv_iinc (v := nI (i + 1)) (lv' := [(5, .int (nI (i + 1))), (4, .int (nI P)), (3, .int (nI n)), (1, .long (lI w)), (0, .ref hh)]) hx hb dX0_listRootPowers_38 hl (k := 0) rfl (nI_add i 1) (by decide) rfl (fun ls hl => ?_)
        refine lv_goto (tgt := 10) hx hb dX0_listRootPowers_41 (by decide) ?_
        exact ih_10  (i + 1) (by omega) (by omega) (by omega) _ _ _ (hP.sub [0, 1] rfl) (hD.sub [0, 1] (by decide) rfl) hS (lv_sub hl [0, 1, 2, 3, 4] rfl)
  exact key_10 (n + 1) 1 (by omega) (by omega) (by omega) _ _ _ (hP.sub [0, 1] rfl) (hD.sub [0, 1] (by decide) rfl) hS (lv_sub hl [0, 4, 3, 2, 1] rfl)

abbrev q_X0_splitBlock (dC : Nat → ClassId) (dI : Nat → Nat → Nat) (cJ : ClassId) (hh lf rt rp ra : Nat) (F G : Nat → Int) (a h d P : Nat) (A : Nat → Prop) : Array Value → State → Outcome → State → Prop := va_Qv (fun (u : Unit) => True) (fun u t => va_P (dC, dI) vwCl [(hh, .inr (0, [.ref lf, .ref rt, .ref rp])), (ra, .inl (cJ, 512, .inr (.inl (fun j => lI ((spB F G a h d P h) j))))), (rp, .inl (cJ, 256, .inr (.inl (fun j => lI (G j)))))] t.heap ∧ va_D A [(hh, .inr (0, [.ref lf, .ref rt, .ref rp])), (ra, .inl (cJ, 512, .inr (.inl (fun j => lI ((spB F G a h d P h) j))))), (rp, .inl (cJ, 256, .inr (.inl (fun j => lI (G j)))))]) A
set_option maxHeartbeats 4000000 in
set_option maxRecDepth 100000 in
theorem c_X0_splitBlock (l : Launch) (dC : Nat → ClassId) (dI : Nat → Nat → Nat) (cJ : ClassId) (hh lf rt rp ra : Nat) (F G : Nat → Int) (a h d P : Nat) (sz : Nat) (zF : inR F (a + 2 * h) P) (zG : inR G (h * d) P) (za : a + 2 * h ≤ 512) (zd : 0 < d) (zhd : h * d ≤ 256) (hp1 : 1 < P) (hp2 : P ≤ 2 ^ 30) : Met l yX0_splitBlock wsX0_splitBlock ({ frames := 0, cells := 0, slots := 0, locals := 0 }) (va_Pc [.ref hh, .ref ra, .int (nI a), .int (nI h), .int (nI d), .int (nI P)] (fun U => U.heap.size = sz ∧ va_P (dC, dI) vwCl [(hh, .inr (0, [.ref lf, .ref rt, .ref rp])), (ra, .inl (cJ, 512, .inr (.inl (fun j => lI (F j))))), (rp, .inl (cJ, 256, .inr (.inl (fun j => lI (G j)))))] U.heap ∧ va_K (dC, dI) vwCl [(cJ, .long)] U ∧ va_D (fun _ => True) [(hh, .inr (0, [.ref lf, .ref rt, .ref rp])), (ra, .inl (cJ, 512, .inr (.inl (fun j => lI (F j))))), (rp, .inl (cJ, 256, .inr (.inl (fun j => lI (G j)))))])) (q_X0_splitBlock dC dI cJ hh lf rt rp ra F G a h d P (va_A [(hh, .inr (0, [.ref lf, .ref rt, .ref rp])), (ra, .inl (cJ, 512, .inr (.inl (fun j => lI (F j))))), (rp, .inl (cJ, 256, .inr (.inl (fun j => lI (G j)))))] sz)) 0 0 (va_A [(hh, .inr (0, [.ref lf, .ref rt, .ref rp])), (ra, .inl (cJ, 512, .inr (.inl (fun j => lI (F j))))), (rp, .inl (cJ, 256, .inr (.inl (fun j => lI (G j)))))] sz) := by
  refine Met.ofW (cc := cX0_splitBlock) (maxL := 13) (ret := none) (by decide) rfl ?_
  intro p e s m args below meth c s₁ B hml hv
  obtain ⟨rfl, hsz, hP, hK, hD0⟩ := hv
  have hx := B.exec
  have hb := B.bytes
  have hr := B.returns
  have hts := atoms_spec (ws := wsX0_splitBlock) B.pre
  have hown : s.vm.findClass RX0 = some m.cls := findClass_of_methodNamed B.named
  have hlocks := B.notSynchronized
  subst hsz
  have hD := hD0.self (sz := s.heap.size)
  generalize hAe : va_A [(hh, .inr (0, [.ref lf, .ref rt, .ref rp])), (ra, .inl (cJ, 512, .inr (.inl (fun j => lI (F j))))), (rp, .inl (cJ, 256, .inr (.inl (fun j => lI (G j)))))] s.heap.size = A at hD ⊢
  have hA : ∀ q : Nat, s.heap.size ≤ q → A q := fun q h => by rw [← hAe]; exact Or.inr h
  have hS : va_S A s.heap s.heap [] := va_S.rf
  have hP : va_P (dC, dI) vwCl [(hh, .inr (0, [.ref lf, .ref rt, .ref rp])), (ra, .inl (cJ, 512, .inr (.inl (fun j => lI (F j))))), (rp, .inl (cJ, 256, .inr (.inl (fun j => lI (G j)))))] s.heap := hP
  have hl := lv_entry (([.ref hh, .ref ra, .int (nI a), .int (nI h), .int (nI d), .int (nI P)] : List Value)) (n := 13) (Nat.le_of_ble_eq_true rfl)
  rw [lg_entry_eq]
  generalize (lg_sl (([.ref hh, .ref ra, .int (nI a), .int (nI h), .int (nI d), .int (nI P)] : List Value)) ++ List.replicate (13 - (lg_sl (([.ref hh, .ref ra, .int (nI a), .int (nI h), .int (nI d), .int (nI P)] : List Value))).length) Slot.unset).toArray = ls at hl ⊢
  have hl : lv_has ls 13 [(0, .ref hh), (1, .ref ra), (2, .int (nI a)), (3, .int (nI h)), (4, .int (nI d)), (5, .int (nI P))] := hl
  obtain ⟨H, hHe⟩ : ∃ H : Heap, H = s.heap := ⟨_, rfl⟩
  rw [← hHe] at hP
  have hS : va_S A s.heap H [] := by rw [hHe]; exact hS
  obtain ⟨locs, hlo⟩ : ∃ L : List Loc, L = [] := ⟨_, rfl⟩
  rw [← hlo] at hS ⊢
  rw [← hHe]
  refine lv_iconst (v := nI 0) hx hb dX0_splitBlock_0 (by decide) ?_
  rw [← spB_0 F G a h d P] at hP hD
  have hP : va_P (dC, dI) vwCl [(hh, .inr (0, [.ref lf, .ref rt, .ref rp])), (ra, .inl (cJ, 512, .inr (.inl (fun j => lI ((spB F G a h d P 0) j))))), (rp, .inl (cJ, 256, .inr (.inl (fun j => lI (G j)))))] H := hP
  have hD : va_D A [(hh, .inr (0, [.ref lf, .ref rt, .ref rp])), (ra, .inl (cJ, 512, .inr (.inl (fun j => lI ((spB F G a h d P 0) j))))), (rp, .inl (cJ, 256, .inr (.inl (fun j => lI (G j)))))] := hD
  refine lv_istore (lv' := [(6, .int (nI 0)), (0, .ref hh), (1, .ref ra), (2, .int (nI a)), (3, .int (nI h)), (4, .int (nI d)), (5, .int (nI P))]) hx hb dX0_splitBlock_1 hl (by decide) rfl (fun ls hl => ?_)
  have key_3 : ∀ (fuel : Nat) (t : Nat), (t ≤ h) → (h - t < fuel) → ∀ (H : Heap) (locs : List Loc) (ls : Array Slot), va_P (dC, dI) vwCl [(hh, .inr (0, [.ref lf, .ref rt, .ref rp])), (ra, .inl (cJ, 512, .inr (.inl (fun j => lI ((spB F G a h d P t) j))))), (rp, .inl (cJ, 256, .inr (.inl (fun j => lI (G j)))))] H → va_D A [(hh, .inr (0, [.ref lf, .ref rt, .ref rp])), (ra, .inl (cJ, 512, .inr (.inl (fun j => lI ((spB F G a h d P t) j))))), (rp, .inl (cJ, 256, .inr (.inl (fun j => lI (G j)))))] → va_S A s.heap H locs → lv_has ls 13 [(6, .int (nI t)), (5, .int (nI P)), (4, .int (nI d)), (3, .int (nI h)), (2, .int (nI a)), (1, .ref ra), (0, .ref hh)] → W p l e (headSpec wsX0_splitBlock { frames := 0, cells := 0, slots := 0, locals := 0 }).room s m ([.ref hh, .ref ra, .int (nI a), .int (nI h), .int (nI d), .int (nI P)] : List Value).toArray below meth c H locs 0 0 (MQ below (q_X0_splitBlock dC dI cJ hh lf rt rp ra F G a h d P  A) ([.ref hh, .ref ra, .int (nI a), .int (nI h), .int (nI d), .int (nI P)] : List Value).toArray s 0 0 A) (F0 m 3 ls []) := by
    intro fuel
    induction fuel with
    | zero => intro t; intros; omega
    | succ fuel ih_3 =>
      intro t ht hfu H locs ls hP hD hS hl
      refine lv_iload hx hb dX0_splitBlock_3 (lv_at hl 0 rfl) ?_
      refine lv_iload_n hx hb dX0_splitBlock_5 rfl (lv_at hl 3 rfl) ?_
      refine lv_icmp_ge (tgt := 98) hx hb dX0_splitBlock_6 (by decide) (fun c_1 => ?_) (fun c_1 => ?_)
      · have c_1 : h ≤ t := (nI_leI (a := h) (b := t) (by omega) (by omega)).mp c_1
        rw [show spB F G a h d P t = spB F G a h d P h from by rw [show t = h by omega]] at hP hD
        have hP : va_P (dC, dI) vwCl [(hh, .inr (0, [.ref lf, .ref rt, .ref rp])), (ra, .inl (cJ, 512, .inr (.inl (fun j => lI ((spB F G a h d P h) j))))), (rp, .inl (cJ, 256, .inr (.inl (fun j => lI (G j)))))] H := hP
        have hD : va_D A [(hh, .inr (0, [.ref lf, .ref rt, .ref rp])), (ra, .inl (cJ, 512, .inr (.inl (fun j => lI ((spB F G a h d P h) j))))), (rp, .inl (cJ, 256, .inr (.inl (fun j => lI (G j)))))] := hD
        have hP9 : va_P (dC, dI) vwCl [(hh, .inr (0, [.ref lf, .ref rt, .ref rp])), (ra, .inl (cJ, 512, .inr (.inl (fun j => lI ((spB F G a h d P h) j))))), (rp, .inl (cJ, 256, .inr (.inl (fun j => lI (G j)))))] H := hP.sub [0, 1, 2] rfl
        have hD9 : va_D A [(hh, .inr (0, [.ref lf, .ref rt, .ref rp])), (ra, .inl (cJ, 512, .inr (.inl (fun j => lI ((spB F G a h d P h) j))))), (rp, .inl (cJ, 256, .inr (.inl (fun j => lI (G j)))))] := hD.sub [0, 1, 2] (by decide) rfl
        exact W.vret hx hb hr (fun t ht hW => ⟨⟨(), rfl, trivial, by rw [ht]; exact hP9, hD9⟩, hS.F ht⟩) hS.2.2 dX0_splitBlock_98
      · have c_1 : ¬ (h ≤ t) := fun zq9 => c_1 ((nI_leI (a := h) (b := t) (by omega) (by omega)).mpr zq9)
        have ht2 : t < h := by omega
        have f1 := zF (a + t) (by omega)
        have f2 := zF (a + h + t) (by omega)
        have hix := idx_lt ht2 zd zhd
        have hix2 := idx_lt ht2 zd (Nat.le_refl _)
        have g1 := zG (t * d) (by omega)
        have b1 := mul_b31 (a := F (a + t) - F (a + h + t) + P) (b := G (t * d)) (c := P) (by omega) (by omega) (by omega) (by omega) (by omega)
        refine lv_aload_n hx hb dX0_splitBlock_9 rfl (lv_at hl 5 rfl) ?_
        refine lv_iload_n hx hb dX0_splitBlock_10 rfl (lv_at hl 4 rfl) ?_
        refine lv_iload hx hb dX0_splitBlock_11 (lv_at hl 0 rfl) ?_
        refine lv_iadd hx hb dX0_splitBlock_13 ?_
        refine W.eq (congrArg (fun z => F0 m _ ls (.int z :: _)) (show (nI a) + (nI t) = nI (a + t) from nI_add a t)) ?_
        refine va_lald hx hb hK hP 1 0 rfl rfl (vp_in_nI (by omega) (by omega)) dX0_splitBlock_14 ?_
        refine W.eq (g2 := F0 m _ ls [.long (lI ((spB F G a h d P t) (a + t)))]) (by rw [nI_clamp (by omega)]) ?_
        refine W.eq (congrArg (fun z => F0 m _ ls (.long z :: _)) (show lI ((spB F G a h d P t) (a + t)) = lI (F (a + t)) from congrArg lI (spB_a ht2))) ?_
        refine lv_lstore (lv' := [(7, .long (lI (F (a + t)))), (6, .int (nI t)), (5, .int (nI P)), (4, .int (nI d)), (3, .int (nI h)), (2, .int (nI a)), (1, .ref ra), (0, .ref hh)]) hx hb dX0_splitBlock_15 hl (by decide) rfl (fun ls hl => ?_)
        refine lv_aload_n hx hb dX0_splitBlock_17 rfl (lv_at hl 6 rfl) ?_
        refine lv_iload_n hx hb dX0_splitBlock_18 rfl (lv_at hl 5 rfl) ?_
        refine lv_iload_n hx hb dX0_splitBlock_19 rfl (lv_at hl 4 rfl) ?_
        refine lv_iadd hx hb dX0_splitBlock_20 ?_
        refine W.eq (congrArg (fun z => F0 m _ ls (.int z :: _)) (show (nI a) + (nI h) = nI (a + h) from nI_add a h)) ?_
        refine lv_iload hx hb dX0_splitBlock_21 (lv_at hl 1 rfl) ?_
        refine lv_iadd hx hb dX0_splitBlock_23 ?_
        refine W.eq (congrArg (fun z => F0 m _ ls (.int z :: _)) (show (nI (a + h)) + (nI t) = nI (a + h + t) from nI_add (a + h) t)) ?_
        refine va_lald hx hb hK hP 1 0 rfl rfl (vp_in_nI (by omega) (by omega)) dX0_splitBlock_24 ?_
        refine W.eq (g2 := F0 m _ ls [.long (lI ((spB F G a h d P t) (a + h + t)))]) (by rw [nI_clamp (by omega)]) ?_
        refine W.eq (congrArg (fun z => F0 m _ ls (.long z :: _)) (show lI ((spB F G a h d P t) (a + h + t)) = lI (F (a + h + t)) from congrArg lI (spB_b ht2))) ?_
        refine lv_lstore (lv' := [(9, .long (lI (F (a + h + t)))), (7, .long (lI (F (a + t)))), (6, .int (nI t)), (5, .int (nI P)), (4, .int (nI d)), (3, .int (nI h)), (2, .int (nI a)), (1, .ref ra), (0, .ref hh)]) hx hb dX0_splitBlock_25 hl (by decide) rfl (fun ls hl => ?_)
        refine lv_lload hx hb dX0_splitBlock_27 (lv_at hl 1 rfl) ?_
        refine lv_lload hx hb dX0_splitBlock_29 (lv_at hl 0 rfl) ?_
        refine lv_ladd hx hb dX0_splitBlock_31 ?_
        refine W.eq (congrArg (fun z => F0 m _ ls (.long z :: _)) (show lI (F (a + t)) + lI (F (a + h + t)) = lI ((F (a + t)) + (F (a + h + t))) from lI_add (F (a + t)) (F (a + h + t)))) ?_
        refine lv_lstore (lv' := [(11, .long (lI ((F (a + t)) + (F (a + h + t))))), (9, .long (lI (F (a + h + t)))), (7, .long (lI (F (a + t)))), (6, .int (nI t)), (5, .int (nI P)), (4, .int (nI d)), (3, .int (nI h)), (2, .int (nI a)), (1, .ref ra), (0, .ref hh)]) hx hb dX0_splitBlock_32 hl (by decide) rfl (fun ls hl => ?_)
        refine lv_aload_n hx hb dX0_splitBlock_34 rfl (lv_at hl 8 rfl) ?_
        refine lv_iload_n hx hb dX0_splitBlock_35 rfl (lv_at hl 7 rfl) ?_
        refine lv_iload hx hb dX0_splitBlock_36 (lv_at hl 3 rfl) ?_
        refine lv_iadd hx hb dX0_splitBlock_38 ?_
        refine W.eq (congrArg (fun z => F0 m _ ls (.int z :: _)) (show (nI a) + (nI t) = nI (a + t) from nI_add a t)) ?_
        refine lv_lload hx hb dX0_splitBlock_39 (lv_at hl 0 rfl) ?_
        refine lv_iload hx hb dX0_splitBlock_41 (lv_at hl 4 rfl) ?_
        refine lv_i2l (v := lI ((P : Nat) : Int)) hx hb dX0_splitBlock_43 (nI_lI (by omega)) ?_
        refine W.lcmp hx hb dX0_splitBlock_44 ?_
        refine lv_if_lt (tgt := 57) hx hb dX0_splitBlock_45 (by decide) (fun c_2 => ?_) (fun c_2 => ?_)
        · have c_2 : ((F (a + t)) + (F (a + h + t))) < ((P : Nat) : Int) := ((lg_cmp_lt _ _).trans (lI_lt (a := (F (a + t)) + (F (a + h + t))) (b := ((P : Nat) : Int)) (by omega) (by omega) (by omega) (by omega))).mp c_2
          refine lv_lload hx hb dX0_splitBlock_57 (lv_at hl 0 rfl) ?_
          refine W.eq (congrArg (fun z => F0 m _ ls (.long z :: _)) (show lI ((F (a + t)) + (F (a + h + t))) = lI ((F (a + t) + F (a + h + t)) % (P : Int)) from congrArg lI (Int.emod_eq_of_lt (by omega) (by omega)).symm)) ?_
          refine va_last hx hb hK hP hD hS 1 0 rfl rfl (vp_in_nI (by omega) (by omega)) dX0_splitBlock_59 (fun H locs hP hD hS => ?_)
          rw [nI_clamp (show a + t < 2 ^ 31 by omega)] at hP hD
          rw [upI_l] at hP hD
          have hP : va_P (dC, dI) vwCl [(hh, .inr (0, [.ref lf, .ref rt, .ref rp])), (ra, .inl (cJ, 512, .inr (.inl (fun j => lI ((upI (spB F G a h d P t) (a + t) ((F (a + t) + F (a + h + t)) % (P : Int))) j))))), (rp, .inl (cJ, 256, .inr (.inl (fun j => lI (G j)))))] H := hP
          have hD : va_D A [(hh, .inr (0, [.ref lf, .ref rt, .ref rp])), (ra, .inl (cJ, 512, .inr (.inl (fun j => lI ((upI (spB F G a h d P t) (a + t) ((F (a + t) + F (a + h + t)) % (P : Int))) j))))), (rp, .inl (cJ, 256, .inr (.inl (fun j => lI (G j)))))] := hD
          refine lv_aload_n hx hb dX0_splitBlock_60 rfl (lv_at hl 8 rfl) ?_
          refine lv_iload_n hx hb dX0_splitBlock_61 rfl (lv_at hl 7 rfl) ?_
          refine lv_iload_n hx hb dX0_splitBlock_62 rfl (lv_at hl 6 rfl) ?_
          refine lv_iadd hx hb dX0_splitBlock_63 ?_
          refine W.eq (congrArg (fun z => F0 m _ ls (.int z :: _)) (show (nI a) + (nI h) = nI (a + h) from nI_add a h)) ?_
          refine lv_iload hx hb dX0_splitBlock_64 (lv_at hl 3 rfl) ?_
          refine lv_iadd hx hb dX0_splitBlock_66 ?_
          refine W.eq (congrArg (fun z => F0 m _ ls (.int z :: _)) (show (nI (a + h)) + (nI t) = nI (a + h + t) from nI_add (a + h) t)) ?_
          refine lv_lload hx hb dX0_splitBlock_67 (lv_at hl 2 rfl) ?_
          refine lv_lload hx hb dX0_splitBlock_69 (lv_at hl 1 rfl) ?_
          refine lv_lsub hx hb dX0_splitBlock_71 ?_
          refine W.eq (congrArg (fun z => F0 m _ ls (.long z :: _)) (show lI (F (a + t)) - lI (F (a + h + t)) = lI ((F (a + t)) - (F (a + h + t))) from lI_sub (F (a + t)) (F (a + h + t)))) ?_
          refine lv_iload hx hb dX0_splitBlock_72 (lv_at hl 4 rfl) ?_
          refine lv_i2l (v := lI ((P : Nat) : Int)) hx hb dX0_splitBlock_74 (nI_lI (by omega)) ?_
          refine lv_ladd hx hb dX0_splitBlock_75 ?_
          refine W.eq (congrArg (fun z => F0 m _ ls (.long z :: _)) (show lI ((F (a + t)) - (F (a + h + t))) + lI ((P : Nat) : Int) = lI (((F (a + t)) - (F (a + h + t))) + ((P : Nat) : Int)) from lI_add ((F (a + t)) - (F (a + h + t))) ((P : Nat) : Int))) ?_
          refine lv_aload_n hx hb dX0_splitBlock_76 rfl (lv_at hl 9 rfl) ?_
          refine va_get (D := (dC, dI)) (ci := 0) (v := .ref rp) (C := RX0) (T := TX0) (N := 3) hx hb hts (by decide +kernel) hown hK hP 0 rfl rfl 2 (by decide) (hts (.fieldLink RX0 18 "ThreePrimes$Folder" "rootPowers" "[J") (by decide +kernel)) (fun _ h9 => h9) rfl dX0_splitBlock_77 ?_
          refine lv_iload hx hb dX0_splitBlock_80 (lv_at hl 3 rfl) ?_
          refine lv_iload hx hb dX0_splitBlock_82 (lv_at hl 5 rfl) ?_
          refine lv_imul hx hb dX0_splitBlock_84 ?_
          refine W.eq (congrArg (fun z => F0 m _ ls (.int z :: _)) (show (nI t) * (nI d) = nI (t * d) from pk_mul t d)) ?_
          refine va_lald hx hb hK hP 2 0 rfl rfl (vp_in_nI (by omega) (by omega)) dX0_splitBlock_85 ?_
          refine W.eq (g2 := F0 m _ ls [.long (lI (G (t * d))), .long (lI (((F (a + t)) - (F (a + h + t))) + ((P : Nat) : Int))), .int (nI (a + h + t)), .ref ra]) (by rw [nI_clamp (by omega)]) ?_
          refine lv_lmul hx hb dX0_splitBlock_86 ?_
          refine W.eq (congrArg (fun z => F0 m _ ls (.long z :: _)) (show lI (((F (a + t)) - (F (a + h + t))) + ((P : Nat) : Int)) * lI (G (t * d)) = lI ((((F (a + t)) - (F (a + h + t))) + ((P : Nat) : Int)) * (G (t * d))) from lI_mul (((F (a + t)) - (F (a + h + t))) + ((P : Nat) : Int)) (G (t * d)))) ?_
          refine lv_iload hx hb dX0_splitBlock_87 (lv_at hl 4 rfl) ?_
          refine lv_i2l (v := lI ((P : Nat) : Int)) hx hb dX0_splitBlock_89 (nI_lI (by omega)) ?_
          refine lv_lrem hx hb dX0_splitBlock_90 (fun zq9 => absurd ((lI_eq (b := 0) (by omega) (by omega) (by omega) (by omega)).mp zq9) (by omega)) ?_
          refine W.eq (congrArg (fun z => F0 m _ ls (.long z :: _)) (show lI ((((F (a + t)) - (F (a + h + t))) + ((P : Nat) : Int)) * (G (t * d))) - lI ((((F (a + t)) - (F (a + h + t))) + ((P : Nat) : Int)) * (G (t * d))) / lI ((P : Nat) : Int) * lI ((P : Nat) : Int) = lI (((((F (a + t)) - (F (a + h + t))) + ((P : Nat) : Int)) * (G (t * d))) % ((P : Nat) : Int)) from lI_rem0 (by omega) (by omega) (by omega) (by omega))) ?_
          refine va_last hx hb hK hP hD hS 1 0 rfl rfl (vp_in_nI (by omega) (by omega)) dX0_splitBlock_91 (fun H locs hP hD hS => ?_)
          rw [nI_clamp (show a + h + t < 2 ^ 31 by omega)] at hP hD
          rw [upI_l] at hP hD
          have hP : va_P (dC, dI) vwCl [(hh, .inr (0, [.ref lf, .ref rt, .ref rp])), (ra, .inl (cJ, 512, .inr (.inl (fun j => lI ((upI (upI (spB F G a h d P t) (a + t) ((F (a + t) + F (a + h + t)) % (P : Int))) (a + h + t) (((((F (a + t)) - (F (a + h + t))) + ((P : Nat) : Int)) * (G (t * d))) % ((P : Nat) : Int))) j))))), (rp, .inl (cJ, 256, .inr (.inl (fun j => lI (G j)))))] H := hP
          have hD : va_D A [(hh, .inr (0, [.ref lf, .ref rt, .ref rp])), (ra, .inl (cJ, 512, .inr (.inl (fun j => lI ((upI (upI (spB F G a h d P t) (a + t) ((F (a + t) + F (a + h + t)) % (P : Int))) (a + h + t) (((((F (a + t)) - (F (a + h + t))) + ((P : Nat) : Int)) * (G (t * d))) % ((P : Nat) : Int))) j))))), (rp, .inl (cJ, 256, .inr (.inl (fun j => lI (G j)))))] := hD
          rw [show upI (upI (spB F G a h d P t) (a + t) ((F (a + t) + F (a + h + t)) % (P : Int))) (a + h + t) (((((F (a + t)) - (F (a + h + t))) + ((P : Nat) : Int)) * (G (t * d))) % ((P : Nat) : Int)) = spB F G a h d P (t + 1) from spB_s ht2] at hP hD
          have hP : va_P (dC, dI) vwCl [(hh, .inr (0, [.ref lf, .ref rt, .ref rp])), (ra, .inl (cJ, 512, .inr (.inl (fun j => lI ((spB F G a h d P (t + 1)) j))))), (rp, .inl (cJ, 256, .inr (.inl (fun j => lI (G j)))))] H := hP
          have hD : va_D A [(hh, .inr (0, [.ref lf, .ref rt, .ref rp])), (ra, .inl (cJ, 512, .inr (.inl (fun j => lI ((spB F G a h d P (t + 1)) j))))), (rp, .inl (cJ, 256, .inr (.inl (fun j => lI (G j)))))] := hD
          refine lv_iinc (v := nI (t + 1)) (lv' := [(6, .int (nI (t + 1))), (11, .long (lI ((F (a + t)) + (F (a + h + t))))), (9, .long (lI (F (a + h + t)))), (7, .long (lI (F (a + t)))), (5, .int (nI P)), (4, .int (nI d)), (3, .int (nI h)), (2, .int (nI a)), (1, .ref ra), (0, .ref hh)]) hx hb dX0_splitBlock_92 hl (k := 3) rfl (nI_add t 1) (by decide) rfl (fun ls hl => ?_)
          refine lv_goto (tgt := 3) hx hb dX0_splitBlock_95 (by decide) ?_
          exact ih_3  (t + 1) (by omega) (by omega) _ _ _ (hP.sub [0, 1, 2] rfl) (hD.sub [0, 1, 2] (by decide) rfl) hS (lv_sub hl [0, 4, 5, 6, 7, 8, 9] rfl)
        · have c_2 : ¬ (((F (a + t)) + (F (a + h + t))) < ((P : Nat) : Int)) := fun zq9 => c_2 (((lg_cmp_lt _ _).trans (lI_lt (a := (F (a + t)) + (F (a + h + t))) (b := ((P : Nat) : Int)) (by omega) (by omega) (by omega) (by omega))).mpr zq9)
          refine lv_lload hx hb dX0_splitBlock_48 (lv_at hl 0 rfl) ?_
          refine lv_iload hx hb dX0_splitBlock_50 (lv_at hl 4 rfl) ?_
          refine lv_i2l (v := lI ((P : Nat) : Int)) hx hb dX0_splitBlock_52 (nI_lI (by omega)) ?_
          refine lv_lsub hx hb dX0_splitBlock_53 ?_
          refine W.eq (congrArg (fun z => F0 m _ ls (.long z :: _)) (show lI ((F (a + t)) + (F (a + h + t))) - lI ((P : Nat) : Int) = lI (((F (a + t)) + (F (a + h + t))) - ((P : Nat) : Int)) from lI_sub ((F (a + t)) + (F (a + h + t))) ((P : Nat) : Int))) ?_
          refine lv_goto (tgt := 59) hx hb dX0_splitBlock_54 (by decide) ?_
          refine W.eq (congrArg (fun z => F0 m _ ls (.long z :: _)) (show lI (((F (a + t)) + (F (a + h + t))) - ((P : Nat) : Int)) = lI ((F (a + t) + F (a + h + t)) % (P : Int)) from congrArg lI (sub_emod1 (by omega) (by omega)))) ?_
          refine va_last hx hb hK hP hD hS 1 0 rfl rfl (vp_in_nI (by omega) (by omega)) dX0_splitBlock_59 (fun H locs hP hD hS => ?_)
          rw [nI_clamp (show a + t < 2 ^ 31 by omega)] at hP hD
          rw [upI_l] at hP hD
          have hP : va_P (dC, dI) vwCl [(hh, .inr (0, [.ref lf, .ref rt, .ref rp])), (ra, .inl (cJ, 512, .inr (.inl (fun j => lI ((upI (spB F G a h d P t) (a + t) ((F (a + t) + F (a + h + t)) % (P : Int))) j))))), (rp, .inl (cJ, 256, .inr (.inl (fun j => lI (G j)))))] H := hP
          have hD : va_D A [(hh, .inr (0, [.ref lf, .ref rt, .ref rp])), (ra, .inl (cJ, 512, .inr (.inl (fun j => lI ((upI (spB F G a h d P t) (a + t) ((F (a + t) + F (a + h + t)) % (P : Int))) j))))), (rp, .inl (cJ, 256, .inr (.inl (fun j => lI (G j)))))] := hD
          refine lv_aload_n hx hb dX0_splitBlock_60 rfl (lv_at hl 8 rfl) ?_
          refine lv_iload_n hx hb dX0_splitBlock_61 rfl (lv_at hl 7 rfl) ?_
          refine lv_iload_n hx hb dX0_splitBlock_62 rfl (lv_at hl 6 rfl) ?_
          refine lv_iadd hx hb dX0_splitBlock_63 ?_
          refine W.eq (congrArg (fun z => F0 m _ ls (.int z :: _)) (show (nI a) + (nI h) = nI (a + h) from nI_add a h)) ?_
          refine lv_iload hx hb dX0_splitBlock_64 (lv_at hl 3 rfl) ?_
          refine lv_iadd hx hb dX0_splitBlock_66 ?_
          refine W.eq (congrArg (fun z => F0 m _ ls (.int z :: _)) (show (nI (a + h)) + (nI t) = nI (a + h + t) from nI_add (a + h) t)) ?_
          refine lv_lload hx hb dX0_splitBlock_67 (lv_at hl 2 rfl) ?_
          refine lv_lload hx hb dX0_splitBlock_69 (lv_at hl 1 rfl) ?_
          refine lv_lsub hx hb dX0_splitBlock_71 ?_
          refine W.eq (congrArg (fun z => F0 m _ ls (.long z :: _)) (show lI (F (a + t)) - lI (F (a + h + t)) = lI ((F (a + t)) - (F (a + h + t))) from lI_sub (F (a + t)) (F (a + h + t)))) ?_
          refine lv_iload hx hb dX0_splitBlock_72 (lv_at hl 4 rfl) ?_
          refine lv_i2l (v := lI ((P : Nat) : Int)) hx hb dX0_splitBlock_74 (nI_lI (by omega)) ?_
          refine lv_ladd hx hb dX0_splitBlock_75 ?_
          refine W.eq (congrArg (fun z => F0 m _ ls (.long z :: _)) (show lI ((F (a + t)) - (F (a + h + t))) + lI ((P : Nat) : Int) = lI (((F (a + t)) - (F (a + h + t))) + ((P : Nat) : Int)) from lI_add ((F (a + t)) - (F (a + h + t))) ((P : Nat) : Int))) ?_
          refine lv_aload_n hx hb dX0_splitBlock_76 rfl (lv_at hl 9 rfl) ?_
          refine va_get (D := (dC, dI)) (ci := 0) (v := .ref rp) (C := RX0) (T := TX0) (N := 3) hx hb hts (by decide +kernel) hown hK hP 0 rfl rfl 2 (by decide) (hts (.fieldLink RX0 18 "ThreePrimes$Folder" "rootPowers" "[J") (by decide +kernel)) (fun _ h9 => h9) rfl dX0_splitBlock_77 ?_
          refine lv_iload hx hb dX0_splitBlock_80 (lv_at hl 3 rfl) ?_
          refine lv_iload hx hb dX0_splitBlock_82 (lv_at hl 5 rfl) ?_
          refine lv_imul hx hb dX0_splitBlock_84 ?_
          refine W.eq (congrArg (fun z => F0 m _ ls (.int z :: _)) (show (nI t) * (nI d) = nI (t * d) from pk_mul t d)) ?_
          refine va_lald hx hb hK hP 2 0 rfl rfl (vp_in_nI (by omega) (by omega)) dX0_splitBlock_85 ?_
          refine W.eq (g2 := F0 m _ ls [.long (lI (G (t * d))), .long (lI (((F (a + t)) - (F (a + h + t))) + ((P : Nat) : Int))), .int (nI (a + h + t)), .ref ra]) (by rw [nI_clamp (by omega)]) ?_
          refine lv_lmul hx hb dX0_splitBlock_86 ?_
          refine W.eq (congrArg (fun z => F0 m _ ls (.long z :: _)) (show lI (((F (a + t)) - (F (a + h + t))) + ((P : Nat) : Int)) * lI (G (t * d)) = lI ((((F (a + t)) - (F (a + h + t))) + ((P : Nat) : Int)) * (G (t * d))) from lI_mul (((F (a + t)) - (F (a + h + t))) + ((P : Nat) : Int)) (G (t * d)))) ?_
          refine lv_iload hx hb dX0_splitBlock_87 (lv_at hl 4 rfl) ?_
          refine lv_i2l (v := lI ((P : Nat) : Int)) hx hb dX0_splitBlock_89 (nI_lI (by omega)) ?_
          refine lv_lrem hx hb dX0_splitBlock_90 (fun zq9 => absurd ((lI_eq (b := 0) (by omega) (by omega) (by omega) (by omega)).mp zq9) (by omega)) ?_
          refine W.eq (congrArg (fun z => F0 m _ ls (.long z :: _)) (show lI ((((F (a + t)) - (F (a + h + t))) + ((P : Nat) : Int)) * (G (t * d))) - lI ((((F (a + t)) - (F (a + h + t))) + ((P : Nat) : Int)) * (G (t * d))) / lI ((P : Nat) : Int) * lI ((P : Nat) : Int) = lI (((((F (a + t)) - (F (a + h + t))) + ((P : Nat) : Int)) * (G (t * d))) % ((P : Nat) : Int)) from lI_rem0 (by omega) (by omega) (by omega) (by omega))) ?_
          refine va_last hx hb hK hP hD hS 1 0 rfl rfl (vp_in_nI (by omega) (by omega)) dX0_splitBlock_91 (fun H locs hP hD hS => ?_)
          rw [nI_clamp (show a + h + t < 2 ^ 31 by omega)] at hP hD
          rw [upI_l] at hP hD
          have hP : va_P (dC, dI) vwCl [(hh, .inr (0, [.ref lf, .ref rt, .ref rp])), (ra, .inl (cJ, 512, .inr (.inl (fun j => lI ((upI (upI (spB F G a h d P t) (a + t) ((F (a + t) + F (a + h + t)) % (P : Int))) (a + h + t) (((((F (a + t)) - (F (a + h + t))) + ((P : Nat) : Int)) * (G (t * d))) % ((P : Nat) : Int))) j))))), (rp, .inl (cJ, 256, .inr (.inl (fun j => lI (G j)))))] H := hP
          have hD : va_D A [(hh, .inr (0, [.ref lf, .ref rt, .ref rp])), (ra, .inl (cJ, 512, .inr (.inl (fun j => lI ((upI (upI (spB F G a h d P t) (a + t) ((F (a + t) + F (a + h + t)) % (P : Int))) (a + h + t) (((((F (a + t)) - (F (a + h + t))) + ((P : Nat) : Int)) * (G (t * d))) % ((P : Nat) : Int))) j))))), (rp, .inl (cJ, 256, .inr (.inl (fun j => lI (G j)))))] := hD
          rw [show upI (upI (spB F G a h d P t) (a + t) ((F (a + t) + F (a + h + t)) % (P : Int))) (a + h + t) (((((F (a + t)) - (F (a + h + t))) + ((P : Nat) : Int)) * (G (t * d))) % ((P : Nat) : Int)) = spB F G a h d P (t + 1) from spB_s ht2] at hP hD
          have hP : va_P (dC, dI) vwCl [(hh, .inr (0, [.ref lf, .ref rt, .ref rp])), (ra, .inl (cJ, 512, .inr (.inl (fun j => lI ((spB F G a h d P (t + 1)) j))))), (rp, .inl (cJ, 256, .inr (.inl (fun j => lI (G j)))))] H := hP
          have hD : va_D A [(hh, .inr (0, [.ref lf, .ref rt, .ref rp])), (ra, .inl (cJ, 512, .inr (.inl (fun j => lI ((spB F G a h d P (t + 1)) j))))), (rp, .inl (cJ, 256, .inr (.inl (fun j => lI (G j)))))] := hD
          refine lv_iinc (v := nI (t + 1)) (lv' := [(6, .int (nI (t + 1))), (11, .long (lI ((F (a + t)) + (F (a + h + t))))), (9, .long (lI (F (a + h + t)))), (7, .long (lI (F (a + t)))), (5, .int (nI P)), (4, .int (nI d)), (3, .int (nI h)), (2, .int (nI a)), (1, .ref ra), (0, .ref hh)]) hx hb dX0_splitBlock_92 hl (k := 3) rfl (nI_add t 1) (by decide) rfl (fun ls hl => ?_)
          refine lv_goto (tgt := 3) hx hb dX0_splitBlock_95 (by decide) ?_
          exact ih_3  (t + 1) (by omega) (by omega) _ _ _ (hP.sub [0, 1, 2] rfl) (hD.sub [0, 1, 2] (by decide) rfl) hS (lv_sub hl [0, 4, 5, 6, 7, 8, 9] rfl)
  exact key_3 (h + 1) 0 (by omega) (by omega) _ _ _ (hP.sub [0, 1, 2] rfl) (hD.sub [0, 1, 2] (by decide) rfl) hS (lv_sub hl [0, 6, 5, 4, 3, 2, 1] rfl)

abbrev q_X0_joinBlock (dC : Nat → ClassId) (dI : Nat → Nat → Nat) (cJ : ClassId) (hh lf rt rp ra : Nat) (F G : Nat → Int) (a h d P : Nat) (A : Nat → Prop) : Array Value → State → Outcome → State → Prop := va_Qv (fun (u : Unit) => True) (fun u t => va_P (dC, dI) vwCl [(hh, .inr (0, [.ref lf, .ref rt, .ref rp])), (ra, .inl (cJ, 512, .inr (.inl (fun j => lI ((jnB F G a h d P h) j))))), (rp, .inl (cJ, 256, .inr (.inl (fun j => lI (G j)))))] t.heap ∧ va_D A [(hh, .inr (0, [.ref lf, .ref rt, .ref rp])), (ra, .inl (cJ, 512, .inr (.inl (fun j => lI ((jnB F G a h d P h) j))))), (rp, .inl (cJ, 256, .inr (.inl (fun j => lI (G j)))))]) A
set_option maxHeartbeats 4000000 in
set_option maxRecDepth 100000 in
theorem c_X0_joinBlock (l : Launch) (dC : Nat → ClassId) (dI : Nat → Nat → Nat) (cJ : ClassId) (hh lf rt rp ra : Nat) (F G : Nat → Int) (a h d P : Nat) (sz : Nat) (zF : inR F (a + 2 * h) P) (zG : inR G (h * d) P) (za : a + 2 * h ≤ 512) (zd : 0 < d) (zhd : h * d ≤ 256) (hp1 : 1 < P) (hp2 : P ≤ 2 ^ 30) : Met l yX0_joinBlock wsX0_joinBlock ({ frames := 0, cells := 0, slots := 0, locals := 0 }) (va_Pc [.ref hh, .ref ra, .int (nI a), .int (nI h), .int (nI d), .int (nI P)] (fun U => U.heap.size = sz ∧ va_P (dC, dI) vwCl [(hh, .inr (0, [.ref lf, .ref rt, .ref rp])), (ra, .inl (cJ, 512, .inr (.inl (fun j => lI (F j))))), (rp, .inl (cJ, 256, .inr (.inl (fun j => lI (G j)))))] U.heap ∧ va_K (dC, dI) vwCl [(cJ, .long)] U ∧ va_D (fun _ => True) [(hh, .inr (0, [.ref lf, .ref rt, .ref rp])), (ra, .inl (cJ, 512, .inr (.inl (fun j => lI (F j))))), (rp, .inl (cJ, 256, .inr (.inl (fun j => lI (G j)))))])) (q_X0_joinBlock dC dI cJ hh lf rt rp ra F G a h d P (va_A [(hh, .inr (0, [.ref lf, .ref rt, .ref rp])), (ra, .inl (cJ, 512, .inr (.inl (fun j => lI (F j))))), (rp, .inl (cJ, 256, .inr (.inl (fun j => lI (G j)))))] sz)) 0 0 (va_A [(hh, .inr (0, [.ref lf, .ref rt, .ref rp])), (ra, .inl (cJ, 512, .inr (.inl (fun j => lI (F j))))), (rp, .inl (cJ, 256, .inr (.inl (fun j => lI (G j)))))] sz) := by
  refine Met.ofW (cc := cX0_joinBlock) (maxL := 15) (ret := none) (by decide) rfl ?_
  intro p e s m args below meth c s₁ B hml hv
  obtain ⟨rfl, hsz, hP, hK, hD0⟩ := hv
  have hx := B.exec
  have hb := B.bytes
  have hr := B.returns
  have hts := atoms_spec (ws := wsX0_joinBlock) B.pre
  have hown : s.vm.findClass RX0 = some m.cls := findClass_of_methodNamed B.named
  have hlocks := B.notSynchronized
  subst hsz
  have hD := hD0.self (sz := s.heap.size)
  generalize hAe : va_A [(hh, .inr (0, [.ref lf, .ref rt, .ref rp])), (ra, .inl (cJ, 512, .inr (.inl (fun j => lI (F j))))), (rp, .inl (cJ, 256, .inr (.inl (fun j => lI (G j)))))] s.heap.size = A at hD ⊢
  have hA : ∀ q : Nat, s.heap.size ≤ q → A q := fun q h => by rw [← hAe]; exact Or.inr h
  have hS : va_S A s.heap s.heap [] := va_S.rf
  have hP : va_P (dC, dI) vwCl [(hh, .inr (0, [.ref lf, .ref rt, .ref rp])), (ra, .inl (cJ, 512, .inr (.inl (fun j => lI (F j))))), (rp, .inl (cJ, 256, .inr (.inl (fun j => lI (G j)))))] s.heap := hP
  have hl := lv_entry (([.ref hh, .ref ra, .int (nI a), .int (nI h), .int (nI d), .int (nI P)] : List Value)) (n := 15) (Nat.le_of_ble_eq_true rfl)
  rw [lg_entry_eq]
  generalize (lg_sl (([.ref hh, .ref ra, .int (nI a), .int (nI h), .int (nI d), .int (nI P)] : List Value)) ++ List.replicate (15 - (lg_sl (([.ref hh, .ref ra, .int (nI a), .int (nI h), .int (nI d), .int (nI P)] : List Value))).length) Slot.unset).toArray = ls at hl ⊢
  have hl : lv_has ls 15 [(0, .ref hh), (1, .ref ra), (2, .int (nI a)), (3, .int (nI h)), (4, .int (nI d)), (5, .int (nI P))] := hl
  obtain ⟨H, hHe⟩ : ∃ H : Heap, H = s.heap := ⟨_, rfl⟩
  rw [← hHe] at hP
  have hS : va_S A s.heap H [] := by rw [hHe]; exact hS
  obtain ⟨locs, hlo⟩ : ∃ L : List Loc, L = [] := ⟨_, rfl⟩
  rw [← hlo] at hS ⊢
  rw [← hHe]
  refine lv_iconst (v := nI 0) hx hb dX0_joinBlock_0 (by decide) ?_
  rw [← jnB_0 F G a h d P] at hP hD
  have hP : va_P (dC, dI) vwCl [(hh, .inr (0, [.ref lf, .ref rt, .ref rp])), (ra, .inl (cJ, 512, .inr (.inl (fun j => lI ((jnB F G a h d P 0) j))))), (rp, .inl (cJ, 256, .inr (.inl (fun j => lI (G j)))))] H := hP
  have hD : va_D A [(hh, .inr (0, [.ref lf, .ref rt, .ref rp])), (ra, .inl (cJ, 512, .inr (.inl (fun j => lI ((jnB F G a h d P 0) j))))), (rp, .inl (cJ, 256, .inr (.inl (fun j => lI (G j)))))] := hD
  refine lv_istore (lv' := [(6, .int (nI 0)), (0, .ref hh), (1, .ref ra), (2, .int (nI a)), (3, .int (nI h)), (4, .int (nI d)), (5, .int (nI P))]) hx hb dX0_joinBlock_1 hl (by decide) rfl (fun ls hl => ?_)
  have key_3 : ∀ (fuel : Nat) (t : Nat), (t ≤ h) → (h - t < fuel) → ∀ (H : Heap) (locs : List Loc) (ls : Array Slot), va_P (dC, dI) vwCl [(hh, .inr (0, [.ref lf, .ref rt, .ref rp])), (ra, .inl (cJ, 512, .inr (.inl (fun j => lI ((jnB F G a h d P t) j))))), (rp, .inl (cJ, 256, .inr (.inl (fun j => lI (G j)))))] H → va_D A [(hh, .inr (0, [.ref lf, .ref rt, .ref rp])), (ra, .inl (cJ, 512, .inr (.inl (fun j => lI ((jnB F G a h d P t) j))))), (rp, .inl (cJ, 256, .inr (.inl (fun j => lI (G j)))))] → va_S A s.heap H locs → lv_has ls 15 [(6, .int (nI t)), (5, .int (nI P)), (4, .int (nI d)), (3, .int (nI h)), (2, .int (nI a)), (1, .ref ra), (0, .ref hh)] → W p l e (headSpec wsX0_joinBlock { frames := 0, cells := 0, slots := 0, locals := 0 }).room s m ([.ref hh, .ref ra, .int (nI a), .int (nI h), .int (nI d), .int (nI P)] : List Value).toArray below meth c H locs 0 0 (MQ below (q_X0_joinBlock dC dI cJ hh lf rt rp ra F G a h d P  A) ([.ref hh, .ref ra, .int (nI a), .int (nI h), .int (nI d), .int (nI P)] : List Value).toArray s 0 0 A) (F0 m 3 ls []) := by
    intro fuel
    induction fuel with
    | zero => intro t; intros; omega
    | succ fuel ih_3 =>
      intro t ht hfu H locs ls hP hD hS hl
      refine lv_iload hx hb dX0_joinBlock_3 (lv_at hl 0 rfl) ?_
      refine lv_iload_n hx hb dX0_joinBlock_5 rfl (lv_at hl 3 rfl) ?_
      refine lv_icmp_ge (tgt := 114) hx hb dX0_joinBlock_6 (by decide) (fun c_1 => ?_) (fun c_1 => ?_)
      · have c_1 : h ≤ t := (nI_leI (a := h) (b := t) (by omega) (by omega)).mp c_1
        rw [show jnB F G a h d P t = jnB F G a h d P h from by rw [show t = h by omega]] at hP hD
        have hP : va_P (dC, dI) vwCl [(hh, .inr (0, [.ref lf, .ref rt, .ref rp])), (ra, .inl (cJ, 512, .inr (.inl (fun j => lI ((jnB F G a h d P h) j))))), (rp, .inl (cJ, 256, .inr (.inl (fun j => lI (G j)))))] H := hP
        have hD : va_D A [(hh, .inr (0, [.ref lf, .ref rt, .ref rp])), (ra, .inl (cJ, 512, .inr (.inl (fun j => lI ((jnB F G a h d P h) j))))), (rp, .inl (cJ, 256, .inr (.inl (fun j => lI (G j)))))] := hD
        have hP9 : va_P (dC, dI) vwCl [(hh, .inr (0, [.ref lf, .ref rt, .ref rp])), (ra, .inl (cJ, 512, .inr (.inl (fun j => lI ((jnB F G a h d P h) j))))), (rp, .inl (cJ, 256, .inr (.inl (fun j => lI (G j)))))] H := hP.sub [0, 1, 2] rfl
        have hD9 : va_D A [(hh, .inr (0, [.ref lf, .ref rt, .ref rp])), (ra, .inl (cJ, 512, .inr (.inl (fun j => lI ((jnB F G a h d P h) j))))), (rp, .inl (cJ, 256, .inr (.inl (fun j => lI (G j)))))] := hD.sub [0, 1, 2] (by decide) rfl
        exact W.vret hx hb hr (fun t ht hW => ⟨⟨(), rfl, trivial, by rw [ht]; exact hP9, hD9⟩, hS.F ht⟩) hS.2.2 dX0_joinBlock_114
      · have c_1 : ¬ (h ≤ t) := fun zq9 => c_1 ((nI_leI (a := h) (b := t) (by omega) (by omega)).mpr zq9)
        have ht2 : t < h := by omega
        have f1 := zF (a + t) (by omega)
        have f2 := zF (a + h + t) (by omega)
        have hix := idx_lt ht2 zd zhd
        have hix2 := idx_lt ht2 zd (Nat.le_refl _)
        have g1 := zG (t * d) (by omega)
        have b1 := mul_b30 (a := F (a + h + t)) (b := G (t * d)) (c := P) (by omega) (by omega) (by omega) (by omega) (by omega)
        have b2 := emod_rng (F (a + h + t) * G (t * d)) (show (0 : Int) < P by omega)
        refine lv_aload_n hx hb dX0_joinBlock_9 rfl (lv_at hl 5 rfl) ?_
        refine lv_iload_n hx hb dX0_joinBlock_10 rfl (lv_at hl 4 rfl) ?_
        refine lv_iload hx hb dX0_joinBlock_11 (lv_at hl 0 rfl) ?_
        refine lv_iadd hx hb dX0_joinBlock_13 ?_
        refine W.eq (congrArg (fun z => F0 m _ ls (.int z :: _)) (show (nI a) + (nI t) = nI (a + t) from nI_add a t)) ?_
        refine va_lald hx hb hK hP 1 0 rfl rfl (vp_in_nI (by omega) (by omega)) dX0_joinBlock_14 ?_
        refine W.eq (g2 := F0 m _ ls [.long (lI ((jnB F G a h d P t) (a + t)))]) (by rw [nI_clamp (by omega)]) ?_
        refine W.eq (congrArg (fun z => F0 m _ ls (.long z :: _)) (show lI ((jnB F G a h d P t) (a + t)) = lI (F (a + t)) from congrArg lI (jnB_a ht2))) ?_
        refine lv_lstore (lv' := [(7, .long (lI (F (a + t)))), (6, .int (nI t)), (5, .int (nI P)), (4, .int (nI d)), (3, .int (nI h)), (2, .int (nI a)), (1, .ref ra), (0, .ref hh)]) hx hb dX0_joinBlock_15 hl (by decide) rfl (fun ls hl => ?_)
        refine lv_aload_n hx hb dX0_joinBlock_17 rfl (lv_at hl 6 rfl) ?_
        refine lv_iload_n hx hb dX0_joinBlock_18 rfl (lv_at hl 5 rfl) ?_
        refine lv_iload_n hx hb dX0_joinBlock_19 rfl (lv_at hl 4 rfl) ?_
        refine lv_iadd hx hb dX0_joinBlock_20 ?_
        refine W.eq (congrArg (fun z => F0 m _ ls (.int z :: _)) (show (nI a) + (nI h) = nI (a + h) from nI_add a h)) ?_
        refine lv_iload hx hb dX0_joinBlock_21 (lv_at hl 1 rfl) ?_
        refine lv_iadd hx hb dX0_joinBlock_23 ?_
        refine W.eq (congrArg (fun z => F0 m _ ls (.int z :: _)) (show (nI (a + h)) + (nI t) = nI (a + h + t) from nI_add (a + h) t)) ?_
        refine va_lald hx hb hK hP 1 0 rfl rfl (vp_in_nI (by omega) (by omega)) dX0_joinBlock_24 ?_
        refine W.eq (g2 := F0 m _ ls [.long (lI ((jnB F G a h d P t) (a + h + t)))]) (by rw [nI_clamp (by omega)]) ?_
        refine W.eq (congrArg (fun z => F0 m _ ls (.long z :: _)) (show lI ((jnB F G a h d P t) (a + h + t)) = lI (F (a + h + t)) from congrArg lI (jnB_b ht2))) ?_
        refine lv_aload_n hx hb dX0_joinBlock_25 rfl (lv_at hl 7 rfl) ?_
        refine va_get (D := (dC, dI)) (ci := 0) (v := .ref rp) (C := RX0) (T := TX0) (N := 3) hx hb hts (by decide +kernel) hown hK hP 0 rfl rfl 2 (by decide) (hts (.fieldLink RX0 18 "ThreePrimes$Folder" "rootPowers" "[J") (by decide +kernel)) (fun _ h9 => h9) rfl dX0_joinBlock_26 ?_
        refine lv_iload hx hb dX0_joinBlock_29 (lv_at hl 1 rfl) ?_
        refine lv_iload hx hb dX0_joinBlock_31 (lv_at hl 3 rfl) ?_
        refine lv_imul hx hb dX0_joinBlock_33 ?_
        refine W.eq (congrArg (fun z => F0 m _ ls (.int z :: _)) (show (nI t) * (nI d) = nI (t * d) from pk_mul t d)) ?_
        refine va_lald hx hb hK hP 2 0 rfl rfl (vp_in_nI (by omega) (by omega)) dX0_joinBlock_34 ?_
        refine W.eq (g2 := F0 m _ ls [.long (lI (G (t * d))), .long (lI (F (a + h + t)))]) (by rw [nI_clamp (by omega)]) ?_
        refine lv_lmul hx hb dX0_joinBlock_35 ?_
        refine W.eq (congrArg (fun z => F0 m _ ls (.long z :: _)) (show lI (F (a + h + t)) * lI (G (t * d)) = lI ((F (a + h + t)) * (G (t * d))) from lI_mul (F (a + h + t)) (G (t * d)))) ?_
        refine lv_iload hx hb dX0_joinBlock_36 (lv_at hl 2 rfl) ?_
        refine lv_i2l (v := lI ((P : Nat) : Int)) hx hb dX0_joinBlock_38 (nI_lI (by omega)) ?_
        refine lv_lrem hx hb dX0_joinBlock_39 (fun zq9 => absurd ((lI_eq (b := 0) (by omega) (by omega) (by omega) (by omega)).mp zq9) (by omega)) ?_
        refine W.eq (congrArg (fun z => F0 m _ ls (.long z :: _)) (show lI ((F (a + h + t)) * (G (t * d))) - lI ((F (a + h + t)) * (G (t * d))) / lI ((P : Nat) : Int) * lI ((P : Nat) : Int) = lI (((F (a + h + t)) * (G (t * d))) % ((P : Nat) : Int)) from lI_rem0 (by omega) (by omega) (by omega) (by omega))) ?_
        refine lv_lstore (lv' := [(9, .long (lI (((F (a + h + t)) * (G (t * d))) % ((P : Nat) : Int)))), (7, .long (lI (F (a + t)))), (6, .int (nI t)), (5, .int (nI P)), (4, .int (nI d)), (3, .int (nI h)), (2, .int (nI a)), (1, .ref ra), (0, .ref hh)]) hx hb dX0_joinBlock_40 hl (by decide) rfl (fun ls hl => ?_)
        refine lv_lload hx hb dX0_joinBlock_42 (lv_at hl 1 rfl) ?_
        refine lv_lload hx hb dX0_joinBlock_44 (lv_at hl 0 rfl) ?_
        refine lv_ladd hx hb dX0_joinBlock_46 ?_
        refine W.eq (congrArg (fun z => F0 m _ ls (.long z :: _)) (show lI (F (a + t)) + lI (((F (a + h + t)) * (G (t * d))) % ((P : Nat) : Int)) = lI ((F (a + t)) + (((F (a + h + t)) * (G (t * d))) % ((P : Nat) : Int))) from lI_add (F (a + t)) (((F (a + h + t)) * (G (t * d))) % ((P : Nat) : Int)))) ?_
        refine lv_lstore (lv' := [(11, .long (lI ((F (a + t)) + (((F (a + h + t)) * (G (t * d))) % ((P : Nat) : Int))))), (9, .long (lI (((F (a + h + t)) * (G (t * d))) % ((P : Nat) : Int)))), (7, .long (lI (F (a + t)))), (6, .int (nI t)), (5, .int (nI P)), (4, .int (nI d)), (3, .int (nI h)), (2, .int (nI a)), (1, .ref ra), (0, .ref hh)]) hx hb dX0_joinBlock_47 hl (by decide) rfl (fun ls hl => ?_)
        refine lv_lload hx hb dX0_joinBlock_49 (lv_at hl 2 rfl) ?_
        refine lv_lload hx hb dX0_joinBlock_51 (lv_at hl 1 rfl) ?_
        refine lv_lsub hx hb dX0_joinBlock_53 ?_
        refine W.eq (congrArg (fun z => F0 m _ ls (.long z :: _)) (show lI (F (a + t)) - lI (((F (a + h + t)) * (G (t * d))) % ((P : Nat) : Int)) = lI ((F (a + t)) - (((F (a + h + t)) * (G (t * d))) % ((P : Nat) : Int))) from lI_sub (F (a + t)) (((F (a + h + t)) * (G (t * d))) % ((P : Nat) : Int)))) ?_
        refine lv_lstore (lv' := [(13, .long (lI ((F (a + t)) - (((F (a + h + t)) * (G (t * d))) % ((P : Nat) : Int))))), (11, .long (lI ((F (a + t)) + (((F (a + h + t)) * (G (t * d))) % ((P : Nat) : Int))))), (9, .long (lI (((F (a + h + t)) * (G (t * d))) % ((P : Nat) : Int)))), (7, .long (lI (F (a + t)))), (6, .int (nI t)), (5, .int (nI P)), (4, .int (nI d)), (3, .int (nI h)), (2, .int (nI a)), (1, .ref ra), (0, .ref hh)]) hx hb dX0_joinBlock_54 hl (by decide) rfl (fun ls hl => ?_)
        refine lv_aload_n hx hb dX0_joinBlock_56 rfl (lv_at hl 9 rfl) ?_
        refine lv_iload_n hx hb dX0_joinBlock_57 rfl (lv_at hl 8 rfl) ?_
        refine lv_iload hx hb dX0_joinBlock_58 (lv_at hl 4 rfl) ?_
        refine lv_iadd hx hb dX0_joinBlock_60 ?_
        refine W.eq (congrArg (fun z => F0 m _ ls (.int z :: _)) (show (nI a) + (nI t) = nI (a + t) from nI_add a t)) ?_
        refine lv_lload hx hb dX0_joinBlock_61 (lv_at hl 1 rfl) ?_
        refine lv_iload hx hb dX0_joinBlock_63 (lv_at hl 5 rfl) ?_
        refine lv_i2l (v := lI ((P : Nat) : Int)) hx hb dX0_joinBlock_65 (nI_lI (by omega)) ?_
        refine W.lcmp hx hb dX0_joinBlock_66 ?_
        refine lv_if_lt (tgt := 79) hx hb dX0_joinBlock_67 (by decide) (fun c_2 => ?_) (fun c_2 => ?_)
        · have c_2 : ((F (a + t)) + (((F (a + h + t)) * (G (t * d))) % ((P : Nat) : Int))) < ((P : Nat) : Int) := ((lg_cmp_lt _ _).trans (lI_lt (a := (F (a + t)) + (((F (a + h + t)) * (G (t * d))) % ((P : Nat) : Int))) (b := ((P : Nat) : Int)) (by omega) (by omega) (by omega) (by omega))).mp c_2
          refine lv_lload hx hb dX0_joinBlock_79 (lv_at hl 1 rfl) ?_
          refine W.eq (congrArg (fun z => F0 m _ ls (.long z :: _)) (show lI ((F (a + t)) + (((F (a + h + t)) * (G (t * d))) % ((P : Nat) : Int))) = lI ((F (a + t) + F (a + h + t) * G (t * d) % (P : Int)) % (P : Int)) from congrArg lI (Int.emod_eq_of_lt (by omega) (by omega)).symm)) ?_
          refine va_last hx hb hK hP hD hS 1 0 rfl rfl (vp_in_nI (by omega) (by omega)) dX0_joinBlock_81 (fun H locs hP hD hS => ?_)
          rw [nI_clamp (show a + t < 2 ^ 31 by omega)] at hP hD
          rw [upI_l] at hP hD
          have hP : va_P (dC, dI) vwCl [(hh, .inr (0, [.ref lf, .ref rt, .ref rp])), (ra, .inl (cJ, 512, .inr (.inl (fun j => lI ((upI (jnB F G a h d P t) (a + t) ((F (a + t) + F (a + h + t) * G (t * d) % (P : Int)) % (P : Int))) j))))), (rp, .inl (cJ, 256, .inr (.inl (fun j => lI (G j)))))] H := hP
          have hD : va_D A [(hh, .inr (0, [.ref lf, .ref rt, .ref rp])), (ra, .inl (cJ, 512, .inr (.inl (fun j => lI ((upI (jnB F G a h d P t) (a + t) ((F (a + t) + F (a + h + t) * G (t * d) % (P : Int)) % (P : Int))) j))))), (rp, .inl (cJ, 256, .inr (.inl (fun j => lI (G j)))))] := hD
          refine lv_aload_n hx hb dX0_joinBlock_82 rfl (lv_at hl 9 rfl) ?_
          refine lv_iload_n hx hb dX0_joinBlock_83 rfl (lv_at hl 8 rfl) ?_
          refine lv_iload_n hx hb dX0_joinBlock_84 rfl (lv_at hl 7 rfl) ?_
          refine lv_iadd hx hb dX0_joinBlock_85 ?_
          refine W.eq (congrArg (fun z => F0 m _ ls (.int z :: _)) (show (nI a) + (nI h) = nI (a + h) from nI_add a h)) ?_
          refine lv_iload hx hb dX0_joinBlock_86 (lv_at hl 4 rfl) ?_
          refine lv_iadd hx hb dX0_joinBlock_88 ?_
          refine W.eq (congrArg (fun z => F0 m _ ls (.int z :: _)) (show (nI (a + h)) + (nI t) = nI (a + h + t) from nI_add (a + h) t)) ?_
          refine lv_lload hx hb dX0_joinBlock_89 (lv_at hl 0 rfl) ?_
          refine lv_lconst (v := lI 0) hx hb dX0_joinBlock_91 (by decide) ?_
          refine W.lcmp hx hb dX0_joinBlock_92 ?_
          refine lv_if_ge (tgt := 105) hx hb dX0_joinBlock_93 (by decide) (fun c_3 => ?_) (fun c_3 => ?_)
          · have c_3 : 0 ≤ ((F (a + t)) - (((F (a + h + t)) * (G (t * d))) % ((P : Nat) : Int))) := ((lg_cmp_ge _ _).trans (lI_le (a := 0) (b := (F (a + t)) - (((F (a + h + t)) * (G (t * d))) % ((P : Nat) : Int))) (by omega) (by omega) (by omega) (by omega))).mp c_3
            refine lv_lload hx hb dX0_joinBlock_105 (lv_at hl 0 rfl) ?_
            refine W.eq (congrArg (fun z => F0 m _ ls (.long z :: _)) (show lI ((F (a + t)) - (((F (a + h + t)) * (G (t * d))) % ((P : Nat) : Int))) = lI ((F (a + t) - F (a + h + t) * G (t * d) % (P : Int)) % (P : Int)) from congrArg lI (Int.emod_eq_of_lt (by omega) (by omega)).symm)) ?_
            refine va_last hx hb hK hP hD hS 1 0 rfl rfl (vp_in_nI (by omega) (by omega)) dX0_joinBlock_107 (fun H locs hP hD hS => ?_)
            rw [nI_clamp (show a + h + t < 2 ^ 31 by omega)] at hP hD
            rw [upI_l] at hP hD
            have hP : va_P (dC, dI) vwCl [(hh, .inr (0, [.ref lf, .ref rt, .ref rp])), (ra, .inl (cJ, 512, .inr (.inl (fun j => lI ((upI (upI (jnB F G a h d P t) (a + t) ((F (a + t) + F (a + h + t) * G (t * d) % (P : Int)) % (P : Int))) (a + h + t) ((F (a + t) - F (a + h + t) * G (t * d) % (P : Int)) % (P : Int))) j))))), (rp, .inl (cJ, 256, .inr (.inl (fun j => lI (G j)))))] H := hP
            have hD : va_D A [(hh, .inr (0, [.ref lf, .ref rt, .ref rp])), (ra, .inl (cJ, 512, .inr (.inl (fun j => lI ((upI (upI (jnB F G a h d P t) (a + t) ((F (a + t) + F (a + h + t) * G (t * d) % (P : Int)) % (P : Int))) (a + h + t) ((F (a + t) - F (a + h + t) * G (t * d) % (P : Int)) % (P : Int))) j))))), (rp, .inl (cJ, 256, .inr (.inl (fun j => lI (G j)))))] := hD
            rw [show upI (upI (jnB F G a h d P t) (a + t) ((F (a + t) + F (a + h + t) * G (t * d) % (P : Int)) % (P : Int))) (a + h + t) ((F (a + t) - F (a + h + t) * G (t * d) % (P : Int)) % (P : Int)) = jnB F G a h d P (t + 1) from jnB_s ht2] at hP hD
            have hP : va_P (dC, dI) vwCl [(hh, .inr (0, [.ref lf, .ref rt, .ref rp])), (ra, .inl (cJ, 512, .inr (.inl (fun j => lI ((jnB F G a h d P (t + 1)) j))))), (rp, .inl (cJ, 256, .inr (.inl (fun j => lI (G j)))))] H := hP
            have hD : va_D A [(hh, .inr (0, [.ref lf, .ref rt, .ref rp])), (ra, .inl (cJ, 512, .inr (.inl (fun j => lI ((jnB F G a h d P (t + 1)) j))))), (rp, .inl (cJ, 256, .inr (.inl (fun j => lI (G j)))))] := hD
            refine lv_iinc (v := nI (t + 1)) (lv' := [(6, .int (nI (t + 1))), (13, .long (lI ((F (a + t)) - (((F (a + h + t)) * (G (t * d))) % ((P : Nat) : Int))))), (11, .long (lI ((F (a + t)) + (((F (a + h + t)) * (G (t * d))) % ((P : Nat) : Int))))), (9, .long (lI (((F (a + h + t)) * (G (t * d))) % ((P : Nat) : Int)))), (7, .long (lI (F (a + t)))), (5, .int (nI P)), (4, .int (nI d)), (3, .int (nI h)), (2, .int (nI a)), (1, .ref ra), (0, .ref hh)]) hx hb dX0_joinBlock_108 hl (k := 4) rfl (nI_add t 1) (by decide) rfl (fun ls hl => ?_)
            refine lv_goto (tgt := 3) hx hb dX0_joinBlock_111 (by decide) ?_
            exact ih_3  (t + 1) (by omega) (by omega) _ _ _ (hP.sub [0, 1, 2] rfl) (hD.sub [0, 1, 2] (by decide) rfl) hS (lv_sub hl [0, 5, 6, 7, 8, 9, 10] rfl)
          · have c_3 : ¬ (0 ≤ ((F (a + t)) - (((F (a + h + t)) * (G (t * d))) % ((P : Nat) : Int)))) := fun zq9 => c_3 (((lg_cmp_ge _ _).trans (lI_le (a := 0) (b := (F (a + t)) - (((F (a + h + t)) * (G (t * d))) % ((P : Nat) : Int))) (by omega) (by omega) (by omega) (by omega))).mpr zq9)
            refine lv_lload hx hb dX0_joinBlock_96 (lv_at hl 0 rfl) ?_
            refine lv_iload hx hb dX0_joinBlock_98 (lv_at hl 5 rfl) ?_
            refine lv_i2l (v := lI ((P : Nat) : Int)) hx hb dX0_joinBlock_100 (nI_lI (by omega)) ?_
            refine lv_ladd hx hb dX0_joinBlock_101 ?_
            refine W.eq (congrArg (fun z => F0 m _ ls (.long z :: _)) (show lI ((F (a + t)) - (((F (a + h + t)) * (G (t * d))) % ((P : Nat) : Int))) + lI ((P : Nat) : Int) = lI (((F (a + t)) - (((F (a + h + t)) * (G (t * d))) % ((P : Nat) : Int))) + ((P : Nat) : Int)) from lI_add ((F (a + t)) - (((F (a + h + t)) * (G (t * d))) % ((P : Nat) : Int))) ((P : Nat) : Int))) ?_
            refine lv_goto (tgt := 107) hx hb dX0_joinBlock_102 (by decide) ?_
            refine W.eq (congrArg (fun z => F0 m _ ls (.long z :: _)) (show lI (((F (a + t)) - (((F (a + h + t)) * (G (t * d))) % ((P : Nat) : Int))) + ((P : Nat) : Int)) = lI ((F (a + t) - F (a + h + t) * G (t * d) % (P : Int)) % (P : Int)) from congrArg lI (add_emod1 (by omega) (by omega)))) ?_
            refine va_last hx hb hK hP hD hS 1 0 rfl rfl (vp_in_nI (by omega) (by omega)) dX0_joinBlock_107 (fun H locs hP hD hS => ?_)
            rw [nI_clamp (show a + h + t < 2 ^ 31 by omega)] at hP hD
            rw [upI_l] at hP hD
            have hP : va_P (dC, dI) vwCl [(hh, .inr (0, [.ref lf, .ref rt, .ref rp])), (ra, .inl (cJ, 512, .inr (.inl (fun j => lI ((upI (upI (jnB F G a h d P t) (a + t) ((F (a + t) + F (a + h + t) * G (t * d) % (P : Int)) % (P : Int))) (a + h + t) ((F (a + t) - F (a + h + t) * G (t * d) % (P : Int)) % (P : Int))) j))))), (rp, .inl (cJ, 256, .inr (.inl (fun j => lI (G j)))))] H := hP
            have hD : va_D A [(hh, .inr (0, [.ref lf, .ref rt, .ref rp])), (ra, .inl (cJ, 512, .inr (.inl (fun j => lI ((upI (upI (jnB F G a h d P t) (a + t) ((F (a + t) + F (a + h + t) * G (t * d) % (P : Int)) % (P : Int))) (a + h + t) ((F (a + t) - F (a + h + t) * G (t * d) % (P : Int)) % (P : Int))) j))))), (rp, .inl (cJ, 256, .inr (.inl (fun j => lI (G j)))))] := hD
            rw [show upI (upI (jnB F G a h d P t) (a + t) ((F (a + t) + F (a + h + t) * G (t * d) % (P : Int)) % (P : Int))) (a + h + t) ((F (a + t) - F (a + h + t) * G (t * d) % (P : Int)) % (P : Int)) = jnB F G a h d P (t + 1) from jnB_s ht2] at hP hD
            have hP : va_P (dC, dI) vwCl [(hh, .inr (0, [.ref lf, .ref rt, .ref rp])), (ra, .inl (cJ, 512, .inr (.inl (fun j => lI ((jnB F G a h d P (t + 1)) j))))), (rp, .inl (cJ, 256, .inr (.inl (fun j => lI (G j)))))] H := hP
            have hD : va_D A [(hh, .inr (0, [.ref lf, .ref rt, .ref rp])), (ra, .inl (cJ, 512, .inr (.inl (fun j => lI ((jnB F G a h d P (t + 1)) j))))), (rp, .inl (cJ, 256, .inr (.inl (fun j => lI (G j)))))] := hD
            refine lv_iinc (v := nI (t + 1)) (lv' := [(6, .int (nI (t + 1))), (13, .long (lI ((F (a + t)) - (((F (a + h + t)) * (G (t * d))) % ((P : Nat) : Int))))), (11, .long (lI ((F (a + t)) + (((F (a + h + t)) * (G (t * d))) % ((P : Nat) : Int))))), (9, .long (lI (((F (a + h + t)) * (G (t * d))) % ((P : Nat) : Int)))), (7, .long (lI (F (a + t)))), (5, .int (nI P)), (4, .int (nI d)), (3, .int (nI h)), (2, .int (nI a)), (1, .ref ra), (0, .ref hh)]) hx hb dX0_joinBlock_108 hl (k := 4) rfl (nI_add t 1) (by decide) rfl (fun ls hl => ?_)
            refine lv_goto (tgt := 3) hx hb dX0_joinBlock_111 (by decide) ?_
            exact ih_3  (t + 1) (by omega) (by omega) _ _ _ (hP.sub [0, 1, 2] rfl) (hD.sub [0, 1, 2] (by decide) rfl) hS (lv_sub hl [0, 5, 6, 7, 8, 9, 10] rfl)
        · have c_2 : ¬ (((F (a + t)) + (((F (a + h + t)) * (G (t * d))) % ((P : Nat) : Int))) < ((P : Nat) : Int)) := fun zq9 => c_2 (((lg_cmp_lt _ _).trans (lI_lt (a := (F (a + t)) + (((F (a + h + t)) * (G (t * d))) % ((P : Nat) : Int))) (b := ((P : Nat) : Int)) (by omega) (by omega) (by omega) (by omega))).mpr zq9)
          refine lv_lload hx hb dX0_joinBlock_70 (lv_at hl 1 rfl) ?_
          refine lv_iload hx hb dX0_joinBlock_72 (lv_at hl 5 rfl) ?_
          refine lv_i2l (v := lI ((P : Nat) : Int)) hx hb dX0_joinBlock_74 (nI_lI (by omega)) ?_
          refine lv_lsub hx hb dX0_joinBlock_75 ?_
          refine W.eq (congrArg (fun z => F0 m _ ls (.long z :: _)) (show lI ((F (a + t)) + (((F (a + h + t)) * (G (t * d))) % ((P : Nat) : Int))) - lI ((P : Nat) : Int) = lI (((F (a + t)) + (((F (a + h + t)) * (G (t * d))) % ((P : Nat) : Int))) - ((P : Nat) : Int)) from lI_sub ((F (a + t)) + (((F (a + h + t)) * (G (t * d))) % ((P : Nat) : Int))) ((P : Nat) : Int))) ?_
          refine lv_goto (tgt := 81) hx hb dX0_joinBlock_76 (by decide) ?_
          refine W.eq (congrArg (fun z => F0 m _ ls (.long z :: _)) (show lI (((F (a + t)) + (((F (a + h + t)) * (G (t * d))) % ((P : Nat) : Int))) - ((P : Nat) : Int)) = lI ((F (a + t) + F (a + h + t) * G (t * d) % (P : Int)) % (P : Int)) from congrArg lI (sub_emod1 (by omega) (by omega)))) ?_
          refine va_last hx hb hK hP hD hS 1 0 rfl rfl (vp_in_nI (by omega) (by omega)) dX0_joinBlock_81 (fun H locs hP hD hS => ?_)
          rw [nI_clamp (show a + t < 2 ^ 31 by omega)] at hP hD
          rw [upI_l] at hP hD
          have hP : va_P (dC, dI) vwCl [(hh, .inr (0, [.ref lf, .ref rt, .ref rp])), (ra, .inl (cJ, 512, .inr (.inl (fun j => lI ((upI (jnB F G a h d P t) (a + t) ((F (a + t) + F (a + h + t) * G (t * d) % (P : Int)) % (P : Int))) j))))), (rp, .inl (cJ, 256, .inr (.inl (fun j => lI (G j)))))] H := hP
          have hD : va_D A [(hh, .inr (0, [.ref lf, .ref rt, .ref rp])), (ra, .inl (cJ, 512, .inr (.inl (fun j => lI ((upI (jnB F G a h d P t) (a + t) ((F (a + t) + F (a + h + t) * G (t * d) % (P : Int)) % (P : Int))) j))))), (rp, .inl (cJ, 256, .inr (.inl (fun j => lI (G j)))))] := hD
          refine lv_aload_n hx hb dX0_joinBlock_82 rfl (lv_at hl 9 rfl) ?_
          refine lv_iload_n hx hb dX0_joinBlock_83 rfl (lv_at hl 8 rfl) ?_
          refine lv_iload_n hx hb dX0_joinBlock_84 rfl (lv_at hl 7 rfl) ?_
          refine lv_iadd hx hb dX0_joinBlock_85 ?_
          refine W.eq (congrArg (fun z => F0 m _ ls (.int z :: _)) (show (nI a) + (nI h) = nI (a + h) from nI_add a h)) ?_
          refine lv_iload hx hb dX0_joinBlock_86 (lv_at hl 4 rfl) ?_
          refine lv_iadd hx hb dX0_joinBlock_88 ?_
          refine W.eq (congrArg (fun z => F0 m _ ls (.int z :: _)) (show (nI (a + h)) + (nI t) = nI (a + h + t) from nI_add (a + h) t)) ?_
          refine lv_lload hx hb dX0_joinBlock_89 (lv_at hl 0 rfl) ?_
          refine lv_lconst (v := lI 0) hx hb dX0_joinBlock_91 (by decide) ?_
          refine W.lcmp hx hb dX0_joinBlock_92 ?_
          refine lv_if_ge (tgt := 105) hx hb dX0_joinBlock_93 (by decide) (fun c_4 => ?_) (fun c_4 => ?_)
          · have c_4 : 0 ≤ ((F (a + t)) - (((F (a + h + t)) * (G (t * d))) % ((P : Nat) : Int))) := ((lg_cmp_ge _ _).trans (lI_le (a := 0) (b := (F (a + t)) - (((F (a + h + t)) * (G (t * d))) % ((P : Nat) : Int))) (by omega) (by omega) (by omega) (by omega))).mp c_4
            refine lv_lload hx hb dX0_joinBlock_105 (lv_at hl 0 rfl) ?_
            refine W.eq (congrArg (fun z => F0 m _ ls (.long z :: _)) (show lI ((F (a + t)) - (((F (a + h + t)) * (G (t * d))) % ((P : Nat) : Int))) = lI ((F (a + t) - F (a + h + t) * G (t * d) % (P : Int)) % (P : Int)) from congrArg lI (Int.emod_eq_of_lt (by omega) (by omega)).symm)) ?_
            refine va_last hx hb hK hP hD hS 1 0 rfl rfl (vp_in_nI (by omega) (by omega)) dX0_joinBlock_107 (fun H locs hP hD hS => ?_)
            rw [nI_clamp (show a + h + t < 2 ^ 31 by omega)] at hP hD
            rw [upI_l] at hP hD
            have hP : va_P (dC, dI) vwCl [(hh, .inr (0, [.ref lf, .ref rt, .ref rp])), (ra, .inl (cJ, 512, .inr (.inl (fun j => lI ((upI (upI (jnB F G a h d P t) (a + t) ((F (a + t) + F (a + h + t) * G (t * d) % (P : Int)) % (P : Int))) (a + h + t) ((F (a + t) - F (a + h + t) * G (t * d) % (P : Int)) % (P : Int))) j))))), (rp, .inl (cJ, 256, .inr (.inl (fun j => lI (G j)))))] H := hP
            have hD : va_D A [(hh, .inr (0, [.ref lf, .ref rt, .ref rp])), (ra, .inl (cJ, 512, .inr (.inl (fun j => lI ((upI (upI (jnB F G a h d P t) (a + t) ((F (a + t) + F (a + h + t) * G (t * d) % (P : Int)) % (P : Int))) (a + h + t) ((F (a + t) - F (a + h + t) * G (t * d) % (P : Int)) % (P : Int))) j))))), (rp, .inl (cJ, 256, .inr (.inl (fun j => lI (G j)))))] := hD
            rw [show upI (upI (jnB F G a h d P t) (a + t) ((F (a + t) + F (a + h + t) * G (t * d) % (P : Int)) % (P : Int))) (a + h + t) ((F (a + t) - F (a + h + t) * G (t * d) % (P : Int)) % (P : Int)) = jnB F G a h d P (t + 1) from jnB_s ht2] at hP hD
            have hP : va_P (dC, dI) vwCl [(hh, .inr (0, [.ref lf, .ref rt, .ref rp])), (ra, .inl (cJ, 512, .inr (.inl (fun j => lI ((jnB F G a h d P (t + 1)) j))))), (rp, .inl (cJ, 256, .inr (.inl (fun j => lI (G j)))))] H := hP
            have hD : va_D A [(hh, .inr (0, [.ref lf, .ref rt, .ref rp])), (ra, .inl (cJ, 512, .inr (.inl (fun j => lI ((jnB F G a h d P (t + 1)) j))))), (rp, .inl (cJ, 256, .inr (.inl (fun j => lI (G j)))))] := hD
            refine lv_iinc (v := nI (t + 1)) (lv' := [(6, .int (nI (t + 1))), (13, .long (lI ((F (a + t)) - (((F (a + h + t)) * (G (t * d))) % ((P : Nat) : Int))))), (11, .long (lI ((F (a + t)) + (((F (a + h + t)) * (G (t * d))) % ((P : Nat) : Int))))), (9, .long (lI (((F (a + h + t)) * (G (t * d))) % ((P : Nat) : Int)))), (7, .long (lI (F (a + t)))), (5, .int (nI P)), (4, .int (nI d)), (3, .int (nI h)), (2, .int (nI a)), (1, .ref ra), (0, .ref hh)]) hx hb dX0_joinBlock_108 hl (k := 4) rfl (nI_add t 1) (by decide) rfl (fun ls hl => ?_)
            refine lv_goto (tgt := 3) hx hb dX0_joinBlock_111 (by decide) ?_
            exact ih_3  (t + 1) (by omega) (by omega) _ _ _ (hP.sub [0, 1, 2] rfl) (hD.sub [0, 1, 2] (by decide) rfl) hS (lv_sub hl [0, 5, 6, 7, 8, 9, 10] rfl)
          · have c_4 : ¬ (0 ≤ ((F (a + t)) - (((F (a + h + t)) * (G (t * d))) % ((P : Nat) : Int)))) := fun zq9 => c_4 (((lg_cmp_ge _ _).trans (lI_le (a := 0) (b := (F (a + t)) - (((F (a + h + t)) * (G (t * d))) % ((P : Nat) : Int))) (by omega) (by omega) (by omega) (by omega))).mpr zq9)
            refine lv_lload hx hb dX0_joinBlock_96 (lv_at hl 0 rfl) ?_
            refine lv_iload hx hb dX0_joinBlock_98 (lv_at hl 5 rfl) ?_
            refine lv_i2l (v := lI ((P : Nat) : Int)) hx hb dX0_joinBlock_100 (nI_lI (by omega)) ?_
            refine lv_ladd hx hb dX0_joinBlock_101 ?_
            refine W.eq (congrArg (fun z => F0 m _ ls (.long z :: _)) (show lI ((F (a + t)) - (((F (a + h + t)) * (G (t * d))) % ((P : Nat) : Int))) + lI ((P : Nat) : Int) = lI (((F (a + t)) - (((F (a + h + t)) * (G (t * d))) % ((P : Nat) : Int))) + ((P : Nat) : Int)) from lI_add ((F (a + t)) - (((F (a + h + t)) * (G (t * d))) % ((P : Nat) : Int))) ((P : Nat) : Int))) ?_
            refine lv_goto (tgt := 107) hx hb dX0_joinBlock_102 (by decide) ?_
            refine W.eq (congrArg (fun z => F0 m _ ls (.long z :: _)) (show lI (((F (a + t)) - (((F (a + h + t)) * (G (t * d))) % ((P : Nat) : Int))) + ((P : Nat) : Int)) = lI ((F (a + t) - F (a + h + t) * G (t * d) % (P : Int)) % (P : Int)) from congrArg lI (add_emod1 (by omega) (by omega)))) ?_
            refine va_last hx hb hK hP hD hS 1 0 rfl rfl (vp_in_nI (by omega) (by omega)) dX0_joinBlock_107 (fun H locs hP hD hS => ?_)
            rw [nI_clamp (show a + h + t < 2 ^ 31 by omega)] at hP hD
            rw [upI_l] at hP hD
            have hP : va_P (dC, dI) vwCl [(hh, .inr (0, [.ref lf, .ref rt, .ref rp])), (ra, .inl (cJ, 512, .inr (.inl (fun j => lI ((upI (upI (jnB F G a h d P t) (a + t) ((F (a + t) + F (a + h + t) * G (t * d) % (P : Int)) % (P : Int))) (a + h + t) ((F (a + t) - F (a + h + t) * G (t * d) % (P : Int)) % (P : Int))) j))))), (rp, .inl (cJ, 256, .inr (.inl (fun j => lI (G j)))))] H := hP
            have hD : va_D A [(hh, .inr (0, [.ref lf, .ref rt, .ref rp])), (ra, .inl (cJ, 512, .inr (.inl (fun j => lI ((upI (upI (jnB F G a h d P t) (a + t) ((F (a + t) + F (a + h + t) * G (t * d) % (P : Int)) % (P : Int))) (a + h + t) ((F (a + t) - F (a + h + t) * G (t * d) % (P : Int)) % (P : Int))) j))))), (rp, .inl (cJ, 256, .inr (.inl (fun j => lI (G j)))))] := hD
            rw [show upI (upI (jnB F G a h d P t) (a + t) ((F (a + t) + F (a + h + t) * G (t * d) % (P : Int)) % (P : Int))) (a + h + t) ((F (a + t) - F (a + h + t) * G (t * d) % (P : Int)) % (P : Int)) = jnB F G a h d P (t + 1) from jnB_s ht2] at hP hD
            have hP : va_P (dC, dI) vwCl [(hh, .inr (0, [.ref lf, .ref rt, .ref rp])), (ra, .inl (cJ, 512, .inr (.inl (fun j => lI ((jnB F G a h d P (t + 1)) j))))), (rp, .inl (cJ, 256, .inr (.inl (fun j => lI (G j)))))] H := hP
            have hD : va_D A [(hh, .inr (0, [.ref lf, .ref rt, .ref rp])), (ra, .inl (cJ, 512, .inr (.inl (fun j => lI ((jnB F G a h d P (t + 1)) j))))), (rp, .inl (cJ, 256, .inr (.inl (fun j => lI (G j)))))] := hD
            refine lv_iinc (v := nI (t + 1)) (lv' := [(6, .int (nI (t + 1))), (13, .long (lI ((F (a + t)) - (((F (a + h + t)) * (G (t * d))) % ((P : Nat) : Int))))), (11, .long (lI ((F (a + t)) + (((F (a + h + t)) * (G (t * d))) % ((P : Nat) : Int))))), (9, .long (lI (((F (a + h + t)) * (G (t * d))) % ((P : Nat) : Int)))), (7, .long (lI (F (a + t)))), (5, .int (nI P)), (4, .int (nI d)), (3, .int (nI h)), (2, .int (nI a)), (1, .ref ra), (0, .ref hh)]) hx hb dX0_joinBlock_108 hl (k := 4) rfl (nI_add t 1) (by decide) rfl (fun ls hl => ?_)
            refine lv_goto (tgt := 3) hx hb dX0_joinBlock_111 (by decide) ?_
            exact ih_3  (t + 1) (by omega) (by omega) _ _ _ (hP.sub [0, 1, 2] rfl) (hD.sub [0, 1, 2] (by decide) rfl) hS (lv_sub hl [0, 5, 6, 7, 8, 9, 10] rfl)
  exact key_3 (h + 1) 0 (by omega) (by omega) _ _ _ (hP.sub [0, 1, 2] rfl) (hD.sub [0, 1, 2] (by decide) rfl) hS (lv_sub hl [0, 6, 5, 4, 3, 2, 1] rfl)
end
section
abbrev q_X0_turnIntoValues (dC : Nat → ClassId) (dI : Nat → Nat → Nat) (cJ : ClassId) (hh lf rt rp ra : Nat) (F G : Nat → Int) (k P : Nat) (A : Nat → Prop) : Array Value → State → Outcome → State → Prop := va_Qv (fun (u : Unit) => True) (fun u t => va_P (dC, dI) vwCl [(hh, .inr (0, [.ref lf, .ref rt, .ref rp])), (ra, .inl (cJ, 512, .inr (.inl (fun j => lI ((fwd F G k P k) j))))), (rp, .inl (cJ, 256, .inr (.inl (fun j => lI (G j)))))] t.heap ∧ va_D A [(hh, .inr (0, [.ref lf, .ref rt, .ref rp])), (ra, .inl (cJ, 512, .inr (.inl (fun j => lI ((fwd F G k P k) j))))), (rp, .inl (cJ, 256, .inr (.inl (fun j => lI (G j)))))]) A
set_option maxHeartbeats 4000000 in
set_option maxRecDepth 100000 in
theorem c_X0_turnIntoValues (l : Launch) (dC : Nat → ClassId) (dI : Nat → Nat → Nat) (cJ : ClassId) (hh lf rt rp ra : Nat) (F G : Nat → Int) (k P : Nat) (sz : Nat) (zF : inR F (2 ^ k) P) (zG : inR G (2 ^ k / 2) P) (zk : k ≤ 9) (hp1 : 1 < P) (hp2 : P ≤ 2 ^ 30) : Met l yX0_turnIntoValues wsX0_turnIntoValues ({ frames := 1, cells := 0, slots := 0, locals := 32 }) (va_Pc [.ref hh, .ref ra, .int (nI k), .int (nI P)] (fun U => U.heap.size = sz ∧ va_P (dC, dI) vwCl [(hh, .inr (0, [.ref lf, .ref rt, .ref rp])), (ra, .inl (cJ, 512, .inr (.inl (fun j => lI (F j))))), (rp, .inl (cJ, 256, .inr (.inl (fun j => lI (G j)))))] U.heap ∧ va_K (dC, dI) vwCl [(cJ, .long)] U ∧ va_D (fun _ => True) [(hh, .inr (0, [.ref lf, .ref rt, .ref rp])), (ra, .inl (cJ, 512, .inr (.inl (fun j => lI (F j))))), (rp, .inl (cJ, 256, .inr (.inl (fun j => lI (G j)))))])) (q_X0_turnIntoValues dC dI cJ hh lf rt rp ra F G k P (va_A [(hh, .inr (0, [.ref lf, .ref rt, .ref rp])), (ra, .inl (cJ, 512, .inr (.inl (fun j => lI (F j))))), (rp, .inl (cJ, 256, .inr (.inl (fun j => lI (G j)))))] sz)) 0 0 (va_A [(hh, .inr (0, [.ref lf, .ref rt, .ref rp])), (ra, .inl (cJ, 512, .inr (.inl (fun j => lI (F j))))), (rp, .inl (cJ, 256, .inr (.inl (fun j => lI (G j)))))] sz) := by
  refine Met.ofW (cc := cX0_turnIntoValues) (maxL := 8) (ret := none) (by decide) rfl ?_
  intro p e s m args below meth c s₁ B hml hv
  obtain ⟨rfl, hsz, hP, hK, hD0⟩ := hv
  have hx := B.exec
  have hb := B.bytes
  have hr := B.returns
  have hts := atoms_spec (ws := wsX0_turnIntoValues) B.pre
  have hown : s.vm.findClass RX0 = some m.cls := findClass_of_methodNamed B.named
  have hlocks := B.notSynchronized
  subst hsz
  have hD := hD0.self (sz := s.heap.size)
  generalize hAe : va_A [(hh, .inr (0, [.ref lf, .ref rt, .ref rp])), (ra, .inl (cJ, 512, .inr (.inl (fun j => lI (F j))))), (rp, .inl (cJ, 256, .inr (.inl (fun j => lI (G j)))))] s.heap.size = A at hD ⊢
  have hA : ∀ q : Nat, s.heap.size ≤ q → A q := fun q h => by rw [← hAe]; exact Or.inr h
  have hS : va_S A s.heap s.heap [] := va_S.rf
  have hP : va_P (dC, dI) vwCl [(hh, .inr (0, [.ref lf, .ref rt, .ref rp])), (ra, .inl (cJ, 512, .inr (.inl (fun j => lI (F j))))), (rp, .inl (cJ, 256, .inr (.inl (fun j => lI (G j)))))] s.heap := hP
  have hl := lv_entry (([.ref hh, .ref ra, .int (nI k), .int (nI P)] : List Value)) (n := 8) (Nat.le_of_ble_eq_true rfl)
  rw [lg_entry_eq]
  generalize (lg_sl (([.ref hh, .ref ra, .int (nI k), .int (nI P)] : List Value)) ++ List.replicate (8 - (lg_sl (([.ref hh, .ref ra, .int (nI k), .int (nI P)] : List Value))).length) Slot.unset).toArray = ls at hl ⊢
  have hl : lv_has ls 8 [(0, .ref hh), (1, .ref ra), (2, .int (nI k)), (3, .int (nI P))] := hl
  obtain ⟨H, hHe⟩ : ∃ H : Heap, H = s.heap := ⟨_, rfl⟩
  rw [← hHe] at hP
  have hS : va_S A s.heap H [] := by rw [hHe]; exact hS
  obtain ⟨locs, hlo⟩ : ∃ L : List Loc, L = [] := ⟨_, rfl⟩
  rw [← hlo] at hS ⊢
  rw [← hHe]
  have hpk := pw9 zk
  refine lv_iconst (v := nI 1) hx hb dX0_turnIntoValues_0 (by decide) ?_
  refine lv_iload_n hx hb dX0_turnIntoValues_1 rfl (lv_at hl 2 rfl) ?_
  refine lv_ishl hx hb dX0_turnIntoValues_2 ?_
  refine W.eq (congrArg (fun z => F0 m _ ls (.int z :: _)) (show (nI 1) <<< ((nI k) &&& 31) = nI (2 ^ k) from zz_shl (by omega))) ?_
  refine lv_istore (lv' := [(4, .int (nI (2 ^ k))), (0, .ref hh), (1, .ref ra), (2, .int (nI k)), (3, .int (nI P))]) hx hb dX0_turnIntoValues_3 hl (by decide) rfl (fun ls hl => ?_)
  refine lv_iload_n hx hb dX0_turnIntoValues_5 rfl (lv_at hl 3 rfl) ?_
  refine lv_iconst (v := nI 1) hx hb dX0_turnIntoValues_6 (by decide) ?_
  refine lv_isub hx hb dX0_turnIntoValues_7 ?_
  refine W.eq (congrArg (fun z => F0 m _ ls (.int z :: _)) (show (nI k) - (nI 1) = zm k from zm_i k)) ?_
  rw [show F = fwd F G k P (k - k) from by rw [Nat.sub_self]; rfl] at hP hD
  have hP : va_P (dC, dI) vwCl [(hh, .inr (0, [.ref lf, .ref rt, .ref rp])), (ra, .inl (cJ, 512, .inr (.inl (fun j => lI ((fwd F G k P (k - k)) j))))), (rp, .inl (cJ, 256, .inr (.inl (fun j => lI (G j)))))] H := hP
  have hD : va_D A [(hh, .inr (0, [.ref lf, .ref rt, .ref rp])), (ra, .inl (cJ, 512, .inr (.inl (fun j => lI ((fwd F G k P (k - k)) j))))), (rp, .inl (cJ, 256, .inr (.inl (fun j => lI (G j)))))] := hD
  refine lv_istore (lv' := [(5, .int (zm k)), (4, .int (nI (2 ^ k))), (0, .ref hh), (1, .ref ra), (2, .int (nI k)), (3, .int (nI P))]) hx hb dX0_turnIntoValues_8 hl (by decide) rfl (fun ls hl => ?_)
  have key_10 : ∀ (fuel : Nat) (n : Nat), (n ≤ k) → (n < fuel) → ∀ (H : Heap) (locs : List Loc) (ls : Array Slot), va_P (dC, dI) vwCl [(hh, .inr (0, [.ref lf, .ref rt, .ref rp])), (ra, .inl (cJ, 512, .inr (.inl (fun j => lI ((fwd F G k P (k - n)) j))))), (rp, .inl (cJ, 256, .inr (.inl (fun j => lI (G j)))))] H → va_D A [(hh, .inr (0, [.ref lf, .ref rt, .ref rp])), (ra, .inl (cJ, 512, .inr (.inl (fun j => lI ((fwd F G k P (k - n)) j))))), (rp, .inl (cJ, 256, .inr (.inl (fun j => lI (G j)))))] → va_S A s.heap H locs → lv_has ls 8 [(5, .int (zm n)), (4, .int (nI (2 ^ k))), (3, .int (nI P)), (2, .int (nI k)), (1, .ref ra), (0, .ref hh)] → W p l e (headSpec wsX0_turnIntoValues { frames := 1, cells := 0, slots := 0, locals := 32 }).room s m ([.ref hh, .ref ra, .int (nI k), .int (nI P)] : List Value).toArray below meth c H locs 0 0 (MQ below (q_X0_turnIntoValues dC dI cJ hh lf rt rp ra F G k P  A) ([.ref hh, .ref ra, .int (nI k), .int (nI P)] : List Value).toArray s 0 0 A) (F0 m 10 ls []) := by
    intro fuel
    induction fuel with
    | zero => intro n; intros; omega
    | succ fuel ih_10 =>
      intro n hn hfu H locs ls hP hD hS hl
      rcases n with _ | v
      · refine lv_iload hx hb dX0_turnIntoValues_10 (lv_at hl 0 rfl) ?_
        refine lv_if_lt (tgt := 66) hx hb dX0_turnIntoValues_12 (by decide) (fun c_1 => ?_) (fun c_1 => ?_)
        · rw [show fwd F G k P (k - 0) = fwd F G k P k from by rw [Nat.sub_zero]] at hP hD
          have hP : va_P (dC, dI) vwCl [(hh, .inr (0, [.ref lf, .ref rt, .ref rp])), (ra, .inl (cJ, 512, .inr (.inl (fun j => lI ((fwd F G k P k) j))))), (rp, .inl (cJ, 256, .inr (.inl (fun j => lI (G j)))))] H := hP
          have hD : va_D A [(hh, .inr (0, [.ref lf, .ref rt, .ref rp])), (ra, .inl (cJ, 512, .inr (.inl (fun j => lI ((fwd F G k P k) j))))), (rp, .inl (cJ, 256, .inr (.inl (fun j => lI (G j)))))] := hD
          have hP9 : va_P (dC, dI) vwCl [(hh, .inr (0, [.ref lf, .ref rt, .ref rp])), (ra, .inl (cJ, 512, .inr (.inl (fun j => lI ((fwd F G k P k) j))))), (rp, .inl (cJ, 256, .inr (.inl (fun j => lI (G j)))))] H := hP.sub [0, 1, 2] rfl
          have hD9 : va_D A [(hh, .inr (0, [.ref lf, .ref rt, .ref rp])), (ra, .inl (cJ, 512, .inr (.inl (fun j => lI ((fwd F G k P k) j))))), (rp, .inl (cJ, 256, .inr (.inl (fun j => lI (G j)))))] := hD.sub [0, 1, 2] (by decide) rfl
          exact W.vret hx hb hr (fun t ht hW => ⟨⟨(), rfl, trivial, by rw [ht]; exact hP9, hD9⟩, hS.F ht⟩) hS.2.2 dX0_turnIntoValues_66
        · exact absurd zm_0 c_1
      · rw [zm_s] at hl
        have hv : v < k := by omega
        obtain ⟨e1, e2, e3, e4, e5⟩ := lvl zk hv
        refine lv_iload hx hb dX0_turnIntoValues_10 (lv_at hl 0 rfl) ?_
        refine lv_if_lt (tgt := 66) hx hb dX0_turnIntoValues_12 (by decide) (fun c_2 => ?_) (fun c_2 => ?_)
        · have c_2 : v < 0 := (nI_ltI (a := v) (b := 0) (by omega) (by omega)).mp c_2
          omega
        · have c_2 : ¬ (v < 0) := fun zq9 => c_2 ((nI_ltI (a := v) (b := 0) (by omega) (by omega)).mpr zq9)
          refine lv_iconst (v := nI 1) hx hb dX0_turnIntoValues_15 (by decide) ?_
          refine lv_iload hx hb dX0_turnIntoValues_16 (lv_at hl 0 rfl) ?_
          refine lv_ishl hx hb dX0_turnIntoValues_18 ?_
          refine W.eq (congrArg (fun z => F0 m _ ls (.int z :: _)) (show (nI 1) <<< ((nI v) &&& 31) = nI (2 ^ v) from zz_shl (by omega))) ?_
          refine lv_istore (lv' := [(6, .int (nI (2 ^ v))), (5, .int (nI v)), (4, .int (nI (2 ^ k))), (3, .int (nI P)), (2, .int (nI k)), (1, .ref ra), (0, .ref hh)]) hx hb dX0_turnIntoValues_19 hl (by decide) rfl (fun ls hl => ?_)
          refine lv_iconst (v := nI 0) hx hb dX0_turnIntoValues_21 (by decide) ?_
          rw [show fwd F G k P (k - (v + 1)) = spP (fwd F G k P (k - (v + 1))) G (2 ^ v) (2 ^ k / (2 * 2 ^ v)) P 0 from (spP_0 _ _ _ _ _).symm] at hP hD
          have hP : va_P (dC, dI) vwCl [(hh, .inr (0, [.ref lf, .ref rt, .ref rp])), (ra, .inl (cJ, 512, .inr (.inl (fun j => lI ((spP (fwd F G k P (k - (v + 1))) G (2 ^ v) (2 ^ k / (2 * 2 ^ v)) P 0) j))))), (rp, .inl (cJ, 256, .inr (.inl (fun j => lI (G j)))))] H := hP
          have hD : va_D A [(hh, .inr (0, [.ref lf, .ref rt, .ref rp])), (ra, .inl (cJ, 512, .inr (.inl (fun j => lI ((spP (fwd F G k P (k - (v + 1))) G (2 ^ v) (2 ^ k / (2 * 2 ^ v)) P 0) j))))), (rp, .inl (cJ, 256, .inr (.inl (fun j => lI (G j)))))] := hD
          refine lv_istore (lv' := [(7, .int (nI 0)), (6, .int (nI (2 ^ v))), (5, .int (nI v)), (4, .int (nI (2 ^ k))), (3, .int (nI P)), (2, .int (nI k)), (1, .ref ra), (0, .ref hh)]) hx hb dX0_turnIntoValues_22 hl (by decide) rfl (fun ls hl => ?_)
          have key_24 : ∀ (fuel : Nat) (a : Nat), (a ≤ 2 ^ k) → (a % (2 * 2 ^ v) = 0) → (2 ^ k - a < fuel) → ∀ (H : Heap) (locs : List Loc) (ls : Array Slot), va_P (dC, dI) vwCl [(hh, .inr (0, [.ref lf, .ref rt, .ref rp])), (ra, .inl (cJ, 512, .inr (.inl (fun j => lI ((spP (fwd F G k P (k - (v + 1))) G (2 ^ v) (2 ^ k / (2 * 2 ^ v)) P a) j))))), (rp, .inl (cJ, 256, .inr (.inl (fun j => lI (G j)))))] H → va_D A [(hh, .inr (0, [.ref lf, .ref rt, .ref rp])), (ra, .inl (cJ, 512, .inr (.inl (fun j => lI ((spP (fwd F G k P (k - (v + 1))) G (2 ^ v) (2 ^ k / (2 * 2 ^ v)) P a) j))))), (rp, .inl (cJ, 256, .inr (.inl (fun j => lI (G j)))))] → va_S A s.heap H locs → lv_has ls 8 [(7, .int (nI a)), (6, .int (nI (2 ^ v))), (5, .int (nI v)), (4, .int (nI (2 ^ k))), (3, .int (nI P)), (2, .int (nI k)), (1, .ref ra), (0, .ref hh)] → W p l e (headSpec wsX0_turnIntoValues { frames := 1, cells := 0, slots := 0, locals := 32 }).room s m ([.ref hh, .ref ra, .int (nI k), .int (nI P)] : List Value).toArray below meth c H locs 0 0 (MQ below (q_X0_turnIntoValues dC dI cJ hh lf rt rp ra F G k P  A) ([.ref hh, .ref ra, .int (nI k), .int (nI P)] : List Value).toArray s 0 0 A) (F0 m 24 ls []) := by
            intro fuel
            induction fuel with
            | zero => intro a; intros; omega
            | succ fuel ih_24 =>
              intro a ha1 ha2 hfu H locs ls hP hD hS hl
              refine lv_iload hx hb dX0_turnIntoValues_24 (lv_at hl 0 rfl) ?_
              refine lv_iload hx hb dX0_turnIntoValues_26 (lv_at hl 3 rfl) ?_
              refine lv_icmp_ge (tgt := 60) hx hb dX0_turnIntoValues_28 (by decide) (fun c_3 => ?_) (fun c_3 => ?_)
              · have c_3 : 2 ^ k ≤ a := (nI_leI (a := 2 ^ k) (b := a) (by omega) (by omega)).mp c_3
                rw [show spP (fwd F G k P (k - (v + 1))) G (2 ^ v) (2 ^ k / (2 * 2 ^ v)) P a = fwd F G k P (k - v) from by rw [show a = 2 ^ k by omega, show k - v = (k - (v + 1)) + 1 by omega]; show _ = spP _ _ (2 ^ (k - 1 - (k - (v + 1)))) (2 ^ k / (2 * 2 ^ (k - 1 - (k - (v + 1))))) _ _; rw [show k - 1 - (k - (v + 1)) = v by omega]] at hP hD
                have hP : va_P (dC, dI) vwCl [(hh, .inr (0, [.ref lf, .ref rt, .ref rp])), (ra, .inl (cJ, 512, .inr (.inl (fun j => lI ((fwd F G k P (k - v)) j))))), (rp, .inl (cJ, 256, .inr (.inl (fun j => lI (G j)))))] H := hP
                have hD : va_D A [(hh, .inr (0, [.ref lf, .ref rt, .ref rp])), (ra, .inl (cJ, 512, .inr (.inl (fun j => lI ((fwd F G k P (k - v)) j))))), (rp, .inl (cJ, 256, .inr (.inl (fun j => lI (G j)))))] := hD
                refine lv_iinc (v := zm v) (lv' := [(5, .int (zm v)), (7, .int (nI a)), (6, .int (nI (2 ^ v))), (4, .int (nI (2 ^ k))), (3, .int (nI P)), (2, .int (nI k)), (1, .ref ra), (0, .ref hh)]) hx hb dX0_turnIntoValues_60 hl (k := 2) rfl (rfl) (by decide) rfl (fun ls hl => ?_)
                refine lv_goto (tgt := 10) hx hb dX0_turnIntoValues_63 (by decide) ?_
                exact ih_10  v (by omega) (by omega) _ _ _ (hP.sub [0, 1, 2] rfl) (hD.sub [0, 1, 2] (by decide) rfl) hS (lv_sub hl [0, 3, 4, 5, 6, 7] rfl)
              · have c_3 : ¬ (2 ^ k ≤ a) := fun zq9 => c_3 ((nI_leI (a := 2 ^ k) (b := a) (by omega) (by omega)).mpr zq9)
                have hbn := blk_next ha2 e1 (by omega) e4
                refine lv_aload_n hx hb dX0_turnIntoValues_31 rfl (lv_at hl 7 rfl) ?_
                refine lv_aload_n hx hb dX0_turnIntoValues_32 rfl (lv_at hl 6 rfl) ?_
                refine lv_iload hx hb dX0_turnIntoValues_33 (lv_at hl 0 rfl) ?_
                refine lv_iload hx hb dX0_turnIntoValues_35 (lv_at hl 1 rfl) ?_
                refine lv_iload hx hb dX0_turnIntoValues_37 (lv_at hl 3 rfl) ?_
                refine lv_iconst (v := nI 2) hx hb dX0_turnIntoValues_39 (by decide) ?_
                refine lv_iload hx hb dX0_turnIntoValues_40 (lv_at hl 1 rfl) ?_
                refine lv_imul hx hb dX0_turnIntoValues_42 ?_
                refine W.eq (congrArg (fun z => F0 m _ ls (.int z :: _)) (show (nI 2) * (nI (2 ^ v)) = nI (2 * (2 ^ v)) from pk_mul 2 (2 ^ v))) ?_
                refine lv_idiv hx hb dX0_turnIntoValues_43 (nI_ne0 (by omega) (by omega)) ?_
                refine W.eq (congrArg (fun z => F0 m _ ls (.int z :: _)) (show nI (2 ^ k) / nI (2 * (2 ^ v)) = nI ((2 ^ k) / (2 * (2 ^ v))) from pk_div (by omega) (by omega) (by omega))) ?_
                refine lv_iload_n hx hb dX0_turnIntoValues_44 rfl (lv_at hl 4 rfl) ?_
                have hPc := hP.sub (ws' := [(hh, .inr (0, [.ref lf, .ref rt, .ref rp])), (ra, .inl (cJ, 512, .inr (.inl (fun j => lI ((spP (fwd F G k P (k - (v + 1))) G (2 ^ v) (2 ^ k / (2 * 2 ^ v)) P a) j))))), (rp, .inl (cJ, 256, .inr (.inl (fun j => lI (G j)))))]) [0, 1, 2] rfl
                have hDc := hD.sub (ws' := [(hh, .inr (0, [.ref lf, .ref rt, .ref rp])), (ra, .inl (cJ, 512, .inr (.inl (fun j => lI ((spP (fwd F G k P (k - (v + 1))) G (2 ^ v) (2 ^ k / (2 * 2 ^ v)) P a) j))))), (rp, .inl (cJ, 256, .inr (.inl (fun j => lI (G j)))))]) [0, 1, 2] (by decide) rfl
                have hKc := hK.sub (tys' := [(cJ, .long)]) [0] rfl
                have hFc := va_free (wc := [(hh, .inr (0, [.ref lf, .ref rt, .ref rp])), (ra, .inl (cJ, 512, .inr (.inl (fun j => lI ((spP (fwd F G k P (k - (v + 1))) G (2 ^ v) (2 ^ k / (2 * 2 ^ v)) P a) j))))), (rp, .inl (cJ, 256, .inr (.inl (fun j => lI (G j)))))]) hD hS hA [0, 1, 2] rfl
                refine va_callv (va_runV (As := [.ref ra, .int (nI a), .int (nI (2 ^ v)), .int (nI ((2 ^ k) / (2 * (2 ^ v)))), .int (nI P)]) (rest := []) ⟨hx, hb, hml, hown, hts⟩ (c_X0_splitBlock l dC dI cJ hh lf rt rp ra (spP (fwd F G k P (k - (v + 1))) G (2 ^ v) (2 ^ k / (2 * 2 ^ v)) P a) G a (2 ^ v) ((2 ^ k) / (2 * (2 ^ v))) P H.size (fun j hj => spP_rng (by omega) (fwd_rng (by omega) zF _) j (by omega)) (fun j hj => zG j (by omega)) (by omega) e2 (by omega) (by omega) (by omega)) (cwV 5 hts gX0_turnIntoValues_X0_splitBlock rfl rfl rfl (by decide +kernel) ⟨Nat.le_of_ble_eq_true rfl, Nat.le_of_ble_eq_true rfl⟩) ⟨fun a U g mk q => by obtain ⟨q0, q1, qP, qK, qD⟩ := q; exact ⟨q0, q1, qP, va_K.moved (u := U) (U := U.calling g mk a) (Vm.Alike.refl U.vm) qK, qD⟩, va_recv hKc hPc (ci := 0) (q0 := 0) rfl rfl, fun U hU hW => ⟨rfl, by rw [hU], by rw [hU]; exact hPc, va_K.moved hW.alike hKc, hDc.weaken (fun _ _ _ _ => trivial)⟩⟩ rfl rfl hl.1 rfl (lv_room (Nat.le_of_ble_eq_true rfl)) dX0_turnIntoValues_45 ⟨Nat.le_of_ble_eq_true rfl, Nat.le_of_ble_eq_true rfl⟩) hS (fun q _ h => hFc q h) hFc (fun u9 t9 H1 locs ht hvm hw hB hz1 hk1 hS => ?_)
                obtain ⟨hP1, hD1⟩ := hB
                rw [ht] at hP1
                try dsimp only at hw
                obtain ⟨hP, hD⟩ := va_join (wr := []) (w1 := [(hh, .inr (0, [.ref lf, .ref rt, .ref rp])), (ra, .inl (cJ, 512, .inr (.inl (fun j => lI ((spB (spP (fwd F G k P (k - (v + 1))) G (2 ^ v) (2 ^ k / (2 * 2 ^ v)) P a) G a (2 ^ v) ((2 ^ k) / (2 * (2 ^ v))) P (2 ^ v)) j))))), (rp, .inl (cJ, 256, .inr (.inl (fun j => lI (G j)))))]) hP hD [0, 1, 2] [] rfl rfl (by decide) (by decide) hk1 hFc hP1 hD1
                generalize H1 = H at hP hS ⊢
                have hP : va_P (dC, dI) vwCl [(hh, .inr (0, [.ref lf, .ref rt, .ref rp])), (ra, .inl (cJ, 512, .inr (.inl (fun j => lI ((spB (spP (fwd F G k P (k - (v + 1))) G (2 ^ v) (2 ^ k / (2 * 2 ^ v)) P a) G a (2 ^ v) ((2 ^ k) / (2 * (2 ^ v))) P (2 ^ v)) j))))), (rp, .inl (cJ, 256, .inr (.inl (fun j => lI (G j)))))] H := hP
                have hD : va_D A [(hh, .inr (0, [.ref lf, .ref rt, .ref rp])), (ra, .inl (cJ, 512, .inr (.inl (fun j => lI ((spB (spP (fwd F G k P (k - (v + 1))) G (2 ^ v) (2 ^ k / (2 * 2 ^ v)) P a) G a (2 ^ v) ((2 ^ k) / (2 * (2 ^ v))) P (2 ^ v)) j))))), (rp, .inl (cJ, 256, .inr (.inl (fun j => lI (G j)))))] := hD
                clear hPc hDc hKc hFc hP1 hD1 hk1 hz1 hvm ht
                clear hw
                rw [show spB (spP (fwd F G k P (k - (v + 1))) G (2 ^ v) (2 ^ k / (2 * 2 ^ v)) P a) G a (2 ^ v) ((2 ^ k) / (2 * (2 ^ v))) P (2 ^ v) = spP (fwd F G k P (k - (v + 1))) G (2 ^ v) (2 ^ k / (2 * 2 ^ v)) P (a + 2 * 2 ^ v) from spP_s ha2] at hP hD
                have hP : va_P (dC, dI) vwCl [(hh, .inr (0, [.ref lf, .ref rt, .ref rp])), (ra, .inl (cJ, 512, .inr (.inl (fun j => lI ((spP (fwd F G k P (k - (v + 1))) G (2 ^ v) (2 ^ k / (2 * 2 ^ v)) P (a + 2 * 2 ^ v)) j))))), (rp, .inl (cJ, 256, .inr (.inl (fun j => lI (G j)))))] H := hP
                have hD : va_D A [(hh, .inr (0, [.ref lf, .ref rt, .ref rp])), (ra, .inl (cJ, 512, .inr (.inl (fun j => lI ((spP (fwd F G k P (k - (v + 1))) G (2 ^ v) (2 ^ k / (2 * 2 ^ v)) P (a + 2 * 2 ^ v)) j))))), (rp, .inl (cJ, 256, .inr (.inl (fun j => lI (G j)))))] := hD
                refine lv_iload hx hb dX0_turnIntoValues_48 (lv_at hl 0 rfl) ?_
                refine lv_iconst (v := nI 2) hx hb dX0_turnIntoValues_50 (by decide) ?_
                refine lv_iload hx hb dX0_turnIntoValues_51 (lv_at hl 1 rfl) ?_
                refine lv_imul hx hb dX0_turnIntoValues_53 ?_
                refine W.eq (congrArg (fun z => F0 m _ ls (.int z :: _)) (show (nI 2) * (nI (2 ^ v)) = nI (2 * (2 ^ v)) from pk_mul 2 (2 ^ v))) ?_
                refine lv_iadd hx hb dX0_turnIntoValues_54 ?_
                refine W.eq (congrArg (fun z => F0 m _ ls (.int z :: _)) (show (nI a) + (nI (2 * (2 ^ v))) = nI (a + (2 * (2 ^ v))) from nI_add a (2 * (2 ^ v)))) ?_
                refine lv_istore (lv' := [(7, .int (nI (a + (2 * (2 ^ v))))), (6, .int (nI (2 ^ v))), (5, .int (nI v)), (4, .int (nI (2 ^ k))), (3, .int (nI P)), (2, .int (nI k)), (1, .ref ra), (0, .ref hh)]) hx hb dX0_turnIntoValues_55 hl (by decide) rfl (fun ls hl => ?_)
                refine lv_goto (tgt := 24) hx hb dX0_turnIntoValues_57 (by decide) ?_
                exact ih_24  (a + 2 * 2 ^ v) (hbn.1) (hbn.2) (by omega) _ _ _ (hP.sub [0, 1, 2] rfl) (hD.sub [0, 1, 2] (by decide) rfl) hS (lv_sub hl [0, 1, 2, 3, 4, 5, 6, 7] rfl)
          exact key_24 (2 ^ k + 1) 0 (by omega) (Nat.zero_mod _) (by omega) _ _ _ (hP.sub [0, 1, 2] rfl) (hD.sub [0, 1, 2] (by decide) rfl) hS (lv_sub hl [0, 1, 2, 3, 4, 5, 6, 7] rfl)
  exact key_10 (k + 1) k (by omega) (by omega) _ _ _ (hP.sub [0, 1, 2] rfl) (hD.sub [0, 1, 2] (by decide) rfl) hS (lv_sub hl [0, 1, 5, 4, 3, 2] rfl)

abbrev q_X0_turnBack (dC : Nat → ClassId) (dI : Nat → Nat → Nat) (cJ : ClassId) (hh lf rt rp ra : Nat) (F G : Nat → Int) (k P : Nat) (A : Nat → Prop) : Array Value → State → Outcome → State → Prop := va_Qv (fun (u : Unit) => True) (fun u t => va_P (dC, dI) vwCl [(hh, .inr (0, [.ref lf, .ref rt, .ref rp])), (ra, .inl (cJ, 512, .inr (.inl (fun j => lI ((mlW (bwd F G k P k) ((2 ^ k : Int) ^ (P - 2) % (P : Int)) P (2 ^ k)) j))))), (rp, .inl (cJ, 256, .inr (.inl (fun j => lI (G j)))))] t.heap ∧ va_D A [(hh, .inr (0, [.ref lf, .ref rt, .ref rp])), (ra, .inl (cJ, 512, .inr (.inl (fun j => lI ((mlW (bwd F G k P k) ((2 ^ k : Int) ^ (P - 2) % (P : Int)) P (2 ^ k)) j))))), (rp, .inl (cJ, 256, .inr (.inl (fun j => lI (G j)))))]) A
set_option maxHeartbeats 4000000 in
set_option maxRecDepth 100000 in
theorem c_X0_turnBack (l : Launch) (dC : Nat → ClassId) (dI : Nat → Nat → Nat) (cJ : ClassId) (hh lf rt rp ra : Nat) (F G : Nat → Int) (k P : Nat) (sz : Nat) (zF : inR F (2 ^ k) P) (zG : inR G (2 ^ k / 2) P) (zk : k ≤ 9) (zk1 : 1 ≤ k) (zkP : 512 < P) (hp1 : 1 < P) (hp2 : P ≤ 2 ^ 30) : Met l yX0_turnBack wsX0_turnBack ({ frames := 2, cells := 0, slots := 0, locals := 50 }) (va_Pc [.ref hh, .ref ra, .int (nI k), .int (nI P)] (fun U => U.heap.size = sz ∧ va_P (dC, dI) vwCl [(hh, .inr (0, [.ref lf, .ref rt, .ref rp])), (ra, .inl (cJ, 512, .inr (.inl (fun j => lI (F j))))), (rp, .inl (cJ, 256, .inr (.inl (fun j => lI (G j)))))] U.heap ∧ va_K (dC, dI) vwCl [(cJ, .long)] U ∧ va_D (fun _ => True) [(hh, .inr (0, [.ref lf, .ref rt, .ref rp])), (ra, .inl (cJ, 512, .inr (.inl (fun j => lI (F j))))), (rp, .inl (cJ, 256, .inr (.inl (fun j => lI (G j)))))])) (q_X0_turnBack dC dI cJ hh lf rt rp ra F G k P (va_A [(hh, .inr (0, [.ref lf, .ref rt, .ref rp])), (ra, .inl (cJ, 512, .inr (.inl (fun j => lI (F j))))), (rp, .inl (cJ, 256, .inr (.inl (fun j => lI (G j)))))] sz)) 0 0 (va_A [(hh, .inr (0, [.ref lf, .ref rt, .ref rp])), (ra, .inl (cJ, 512, .inr (.inl (fun j => lI (F j))))), (rp, .inl (cJ, 256, .inr (.inl (fun j => lI (G j)))))] sz) := by
  refine Met.ofW (cc := cX0_turnBack) (maxL := 8) (ret := none) (by decide) rfl ?_
  intro p e s m args below meth c s₁ B hml hv
  obtain ⟨rfl, hsz, hP, hK, hD0⟩ := hv
  have hx := B.exec
  have hb := B.bytes
  have hr := B.returns
  have hts := atoms_spec (ws := wsX0_turnBack) B.pre
  have hown : s.vm.findClass RX0 = some m.cls := findClass_of_methodNamed B.named
  have hlocks := B.notSynchronized
  subst hsz
  have hD := hD0.self (sz := s.heap.size)
  generalize hAe : va_A [(hh, .inr (0, [.ref lf, .ref rt, .ref rp])), (ra, .inl (cJ, 512, .inr (.inl (fun j => lI (F j))))), (rp, .inl (cJ, 256, .inr (.inl (fun j => lI (G j)))))] s.heap.size = A at hD ⊢
  have hA : ∀ q : Nat, s.heap.size ≤ q → A q := fun q h => by rw [← hAe]; exact Or.inr h
  have hS : va_S A s.heap s.heap [] := va_S.rf
  have hP : va_P (dC, dI) vwCl [(hh, .inr (0, [.ref lf, .ref rt, .ref rp])), (ra, .inl (cJ, 512, .inr (.inl (fun j => lI (F j))))), (rp, .inl (cJ, 256, .inr (.inl (fun j => lI (G j)))))] s.heap := hP
  have hl := lv_entry (([.ref hh, .ref ra, .int (nI k), .int (nI P)] : List Value)) (n := 8) (Nat.le_of_ble_eq_true rfl)
  rw [lg_entry_eq]
  generalize (lg_sl (([.ref hh, .ref ra, .int (nI k), .int (nI P)] : List Value)) ++ List.replicate (8 - (lg_sl (([.ref hh, .ref ra, .int (nI k), .int (nI P)] : List Value))).length) Slot.unset).toArray = ls at hl ⊢
  have hl : lv_has ls 8 [(0, .ref hh), (1, .ref ra), (2, .int (nI k)), (3, .int (nI P))] := hl
  obtain ⟨H, hHe⟩ : ∃ H : Heap, H = s.heap := ⟨_, rfl⟩
  rw [← hHe] at hP
  have hS : va_S A s.heap H [] := by rw [hHe]; exact hS
  obtain ⟨locs, hlo⟩ : ∃ L : List Loc, L = [] := ⟨_, rfl⟩
  rw [← hlo] at hS ⊢
  rw [← hHe]
  have hpk := pw9 zk
  refine lv_iconst (v := nI 1) hx hb dX0_turnBack_0 (by decide) ?_
  refine lv_iload_n hx hb dX0_turnBack_1 rfl (lv_at hl 2 rfl) ?_
  refine lv_ishl hx hb dX0_turnBack_2 ?_
  refine W.eq (congrArg (fun z => F0 m _ ls (.int z :: _)) (show (nI 1) <<< ((nI k) &&& 31) = nI (2 ^ k) from zz_shl (by omega))) ?_
  refine lv_istore (lv' := [(4, .int (nI (2 ^ k))), (0, .ref hh), (1, .ref ra), (2, .int (nI k)), (3, .int (nI P))]) hx hb dX0_turnBack_3 hl (by decide) rfl (fun ls hl => ?_)
  refine lv_iconst (v := nI 0) hx hb dX0_turnBack_5 (by decide) ?_
  rw [show F = bwd F G k P 0 from rfl] at hP hD
  have hP : va_P (dC, dI) vwCl [(hh, .inr (0, [.ref lf, .ref rt, .ref rp])), (ra, .inl (cJ, 512, .inr (.inl (fun j => lI ((bwd F G k P 0) j))))), (rp, .inl (cJ, 256, .inr (.inl (fun j => lI (G j)))))] H := hP
  have hD : va_D A [(hh, .inr (0, [.ref lf, .ref rt, .ref rp])), (ra, .inl (cJ, 512, .inr (.inl (fun j => lI ((bwd F G k P 0) j))))), (rp, .inl (cJ, 256, .inr (.inl (fun j => lI (G j)))))] := hD
  refine lv_istore (lv' := [(5, .int (nI 0)), (4, .int (nI (2 ^ k))), (0, .ref hh), (1, .ref ra), (2, .int (nI k)), (3, .int (nI P))]) hx hb dX0_turnBack_6 hl (by decide) rfl (fun ls hl => ?_)
  have key_8 : ∀ (fuel : Nat) (v : Nat), (v ≤ k) → (k - v < fuel) → ∀ (H : Heap) (locs : List Loc) (ls : Array Slot), va_P (dC, dI) vwCl [(hh, .inr (0, [.ref lf, .ref rt, .ref rp])), (ra, .inl (cJ, 512, .inr (.inl (fun j => lI ((bwd F G k P v) j))))), (rp, .inl (cJ, 256, .inr (.inl (fun j => lI (G j)))))] H → va_D A [(hh, .inr (0, [.ref lf, .ref rt, .ref rp])), (ra, .inl (cJ, 512, .inr (.inl (fun j => lI ((bwd F G k P v) j))))), (rp, .inl (cJ, 256, .inr (.inl (fun j => lI (G j)))))] → va_S A s.heap H locs → lv_has ls 8 [(5, .int (nI v)), (4, .int (nI (2 ^ k))), (3, .int (nI P)), (2, .int (nI k)), (1, .ref ra), (0, .ref hh)] → W p l e (headSpec wsX0_turnBack { frames := 2, cells := 0, slots := 0, locals := 50 }).room s m ([.ref hh, .ref ra, .int (nI k), .int (nI P)] : List Value).toArray below meth c H locs 0 0 (MQ below (q_X0_turnBack dC dI cJ hh lf rt rp ra F G k P  A) ([.ref hh, .ref ra, .int (nI k), .int (nI P)] : List Value).toArray s 0 0 A) (F0 m 8 ls []) := by
    intro fuel
    induction fuel with
    | zero => intro v; intros; omega
    | succ fuel ih_8 =>
      intro v hv0 hfu H locs ls hP hD hS hl
      refine lv_iload hx hb dX0_turnBack_8 (lv_at hl 0 rfl) ?_
      refine lv_iload_n hx hb dX0_turnBack_10 rfl (lv_at hl 3 rfl) ?_
      refine lv_icmp_ge (tgt := 65) hx hb dX0_turnBack_11 (by decide) (fun c_1 => ?_) (fun c_1 => ?_)
      · have c_1 : k ≤ v := (nI_leI (a := k) (b := v) (by omega) (by omega)).mp c_1
        rw [show bwd F G k P v = bwd F G k P k from by rw [show v = k by omega]] at hP hD
        have hP : va_P (dC, dI) vwCl [(hh, .inr (0, [.ref lf, .ref rt, .ref rp])), (ra, .inl (cJ, 512, .inr (.inl (fun j => lI ((bwd F G k P k) j))))), (rp, .inl (cJ, 256, .inr (.inl (fun j => lI (G j)))))] H := hP
        have hD : va_D A [(hh, .inr (0, [.ref lf, .ref rt, .ref rp])), (ra, .inl (cJ, 512, .inr (.inl (fun j => lI ((bwd F G k P k) j))))), (rp, .inl (cJ, 256, .inr (.inl (fun j => lI (G j)))))] := hD
        refine lv_iload hx hb dX0_turnBack_65 (lv_at hl 1 rfl) ?_
        refine lv_i2l (v := lI ((2 ^ k : Nat) : Int)) hx hb dX0_turnBack_67 (nI_lI (by omega)) ?_
        refine lv_iload_n hx hb dX0_turnBack_68 rfl (lv_at hl 2 rfl) ?_
        have hPc := hP.sub (ws' := []) [] rfl
        have hDc := hD.sub (ws' := []) [] (by decide) rfl
        have hKc := hK.sub (tys' := []) [] rfl
        have hFc := va_free (wc := []) hD hS hA [] rfl
        refine va_calll (va_runS (As := [.long (lI ((2 ^ k : Nat) : Int)), .int (nI P)]) (rest := []) ⟨hx, hb, hml, hown, hts⟩ (c_X1_inverse l dC dI ((2 ^ k : Nat) : Int) P H.size (by omega) (by omega) (by omega) (by omega)) (va_cwS 2 hts gX0_turnBack_X1_inverse rfl rfl rfl (by decide +kernel) ⟨Nat.le_of_ble_eq_true rfl, Nat.le_of_ble_eq_true rfl⟩) ⟨fun a U g mk q => by obtain ⟨q0, q1, qP, qK, qD⟩ := q; exact ⟨q0, q1, qP, va_K.moved (u := U) (U := U.calling g mk a) (Vm.Alike.refl U.vm) qK, qD⟩, fun U hU hW => ⟨rfl, by rw [hU], by rw [hU]; exact hPc, va_K.moved hW.alike hKc, hDc.weaken (fun _ _ _ _ => trivial)⟩⟩ rfl rfl hl.1 rfl (lv_room (Nat.le_of_ble_eq_true rfl)) dX0_turnBack_69 ⟨Nat.le_of_ble_eq_true rfl, Nat.le_of_ble_eq_true rfl⟩) hS (fun q _ h => hFc q h) hFc (fun r9 u9 t9 H1 locs ht hvm hw hB hz1 hk1 hS => ?_)
        obtain ⟨hP1, hD1⟩ := hB
        rw [ht] at hP1
        try dsimp only at hw
        obtain ⟨hP, hD⟩ := va_join (wr := [(hh, .inr (0, [.ref lf, .ref rt, .ref rp])), (ra, .inl (cJ, 512, .inr (.inl (fun j => lI ((bwd F G k P k) j))))), (rp, .inl (cJ, 256, .inr (.inl (fun j => lI (G j)))))]) (w1 := []) hP hD [] [0, 1, 2] rfl rfl (by decide) (by decide) hk1 hFc hP1 hD1
        generalize H1 = H at hP hS ⊢
        have hP : va_P (dC, dI) vwCl [(hh, .inr (0, [.ref lf, .ref rt, .ref rp])), (ra, .inl (cJ, 512, .inr (.inl (fun j => lI ((bwd F G k P k) j))))), (rp, .inl (cJ, 256, .inr (.inl (fun j => lI (G j)))))] H := hP
        have hD : va_D A [(hh, .inr (0, [.ref lf, .ref rt, .ref rp])), (ra, .inl (cJ, 512, .inr (.inl (fun j => lI ((bwd F G k P k) j))))), (rp, .inl (cJ, 256, .inr (.inl (fun j => lI (G j)))))] := hD
        clear hPc hDc hKc hFc hP1 hD1 hk1 hz1 hvm ht
        subst hw
        obtain ⟨z, hz⟩ : ∃ z : Int, z = ((2 ^ k : Nat) : Int) ^ (P - 2) % ((P : Nat) : Int) := ⟨_, rfl⟩
        rw [← hz]
        have hz1 := emod_rng ((2 ^ k : Int) ^ (P - 2)) (show (0 : Int) < P by omega)
        rw [show ((2 ^ k : Nat) : Int) = (2 ^ k : Int) by exact Int.natCast_pow 2 k] at hz
        rw [← hz] at hz1
        refine lv_lstore (lv' := [(5, .long (lI z)), (4, .int (nI (2 ^ k))), (3, .int (nI P)), (2, .int (nI k)), (1, .ref ra), (0, .ref hh)]) hx hb dX0_turnBack_72 hl (by decide) rfl (fun ls hl => ?_)
        refine lv_iconst (v := nI 0) hx hb dX0_turnBack_74 (by decide) ?_
        rw [show bwd F G k P k = mlW (bwd F G k P k) z P 0 from (mlW_0 _ _ _).symm] at hP hD
        have hP : va_P (dC, dI) vwCl [(hh, .inr (0, [.ref lf, .ref rt, .ref rp])), (ra, .inl (cJ, 512, .inr (.inl (fun j => lI ((mlW (bwd F G k P k) z P 0) j))))), (rp, .inl (cJ, 256, .inr (.inl (fun j => lI (G j)))))] H := hP
        have hD : va_D A [(hh, .inr (0, [.ref lf, .ref rt, .ref rp])), (ra, .inl (cJ, 512, .inr (.inl (fun j => lI ((mlW (bwd F G k P k) z P 0) j))))), (rp, .inl (cJ, 256, .inr (.inl (fun j => lI (G j)))))] := hD
        refine lv_istore (lv' := [(7, .int (nI 0)), (5, .long (lI z)), (4, .int (nI (2 ^ k))), (3, .int (nI P)), (2, .int (nI k)), (1, .ref ra), (0, .ref hh)]) hx hb dX0_turnBack_75 hl (by decide) rfl (fun ls hl => ?_)
        have key_77 : ∀ (fuel : Nat) (i : Nat), (i ≤ 2 ^ k) → (2 ^ k - i < fuel) → ∀ (H : Heap) (locs : List Loc) (ls : Array Slot), va_P (dC, dI) vwCl [(hh, .inr (0, [.ref lf, .ref rt, .ref rp])), (ra, .inl (cJ, 512, .inr (.inl (fun j => lI ((mlW (bwd F G k P k) z P i) j))))), (rp, .inl (cJ, 256, .inr (.inl (fun j => lI (G j)))))] H → va_D A [(hh, .inr (0, [.ref lf, .ref rt, .ref rp])), (ra, .inl (cJ, 512, .inr (.inl (fun j => lI ((mlW (bwd F G k P k) z P i) j))))), (rp, .inl (cJ, 256, .inr (.inl (fun j => lI (G j)))))] → va_S A s.heap H locs → lv_has ls 8 [(7, .int (nI i)), (5, .long (lI z)), (4, .int (nI (2 ^ k))), (3, .int (nI P)), (2, .int (nI k)), (1, .ref ra), (0, .ref hh)] → W p l e (headSpec wsX0_turnBack { frames := 2, cells := 0, slots := 0, locals := 50 }).room s m ([.ref hh, .ref ra, .int (nI k), .int (nI P)] : List Value).toArray below meth c H locs 0 0 (MQ below (q_X0_turnBack dC dI cJ hh lf rt rp ra F G k P  A) ([.ref hh, .ref ra, .int (nI k), .int (nI P)] : List Value).toArray s 0 0 A) (F0 m 77 ls []) := by
          intro fuel
          induction fuel with
          | zero => intro i; intros; omega
          | succ fuel ih_77 =>
            intro i hi hfu H locs ls hP hD hS hl
            refine lv_iload hx hb dX0_turnBack_77 (lv_at hl 0 rfl) ?_
            refine lv_iload hx hb dX0_turnBack_79 (lv_at hl 2 rfl) ?_
            refine lv_icmp_ge (tgt := 104) hx hb dX0_turnBack_81 (by decide) (fun c_2 => ?_) (fun c_2 => ?_)
            · have c_2 : 2 ^ k ≤ i := (nI_leI (a := 2 ^ k) (b := i) (by omega) (by omega)).mp c_2
              rw [show mlW (bwd F G k P k) z P i = mlW (bwd F G k P k) ((2 ^ k : Int) ^ (P - 2) % (P : Int)) P (2 ^ k) from by rw [show i = 2 ^ k by omega, hz]] at hP hD
              have hP : va_P (dC, dI) vwCl [(hh, .inr (0, [.ref lf, .ref rt, .ref rp])), (ra, .inl (cJ, 512, .inr (.inl (fun j => lI ((mlW (bwd F G k P k) ((2 ^ k : Int) ^ (P - 2) % (P : Int)) P (2 ^ k)) j))))), (rp, .inl (cJ, 256, .inr (.inl (fun j => lI (G j)))))] H := hP
              have hD : va_D A [(hh, .inr (0, [.ref lf, .ref rt, .ref rp])), (ra, .inl (cJ, 512, .inr (.inl (fun j => lI ((mlW (bwd F G k P k) ((2 ^ k : Int) ^ (P - 2) % (P : Int)) P (2 ^ k)) j))))), (rp, .inl (cJ, 256, .inr (.inl (fun j => lI (G j)))))] := hD
              have hP9 : va_P (dC, dI) vwCl [(hh, .inr (0, [.ref lf, .ref rt, .ref rp])), (ra, .inl (cJ, 512, .inr (.inl (fun j => lI ((mlW (bwd F G k P k) ((2 ^ k : Int) ^ (P - 2) % (P : Int)) P (2 ^ k)) j))))), (rp, .inl (cJ, 256, .inr (.inl (fun j => lI (G j)))))] H := hP.sub [0, 1, 2] rfl
              have hD9 : va_D A [(hh, .inr (0, [.ref lf, .ref rt, .ref rp])), (ra, .inl (cJ, 512, .inr (.inl (fun j => lI ((mlW (bwd F G k P k) ((2 ^ k : Int) ^ (P - 2) % (P : Int)) P (2 ^ k)) j))))), (rp, .inl (cJ, 256, .inr (.inl (fun j => lI (G j)))))] := hD.sub [0, 1, 2] (by decide) rfl
              exact W.vret hx hb hr (fun t ht hW => ⟨⟨(), rfl, trivial, by rw [ht]; exact hP9, hD9⟩, hS.F ht⟩) hS.2.2 dX0_turnBack_104
            · have c_2 : ¬ (2 ^ k ≤ i) := fun zq9 => c_2 ((nI_leI (a := 2 ^ k) (b := i) (by omega) (by omega)).mpr zq9)
              have fb := bwd_rng (G := G) (k := k) (show (0 : Int) < P by omega) zF k i (by omega)
              have b1 := mul_b30 fb.1 fb.2 hz1.1 hz1.2 (by omega)
              refine lv_aload_n hx hb dX0_turnBack_84 rfl (lv_at hl 5 rfl) ?_
              refine lv_iload hx hb dX0_turnBack_85 (lv_at hl 0 rfl) ?_
              refine lv_aload_n hx hb dX0_turnBack_87 rfl (lv_at hl 5 rfl) ?_
              refine lv_iload hx hb dX0_turnBack_88 (lv_at hl 0 rfl) ?_
              refine va_lald hx hb hK hP 1 0 rfl rfl (vp_in_nI (by omega) (by omega)) dX0_turnBack_90 ?_
              refine W.eq (g2 := F0 m _ ls [.long (lI ((mlW (bwd F G k P k) z P i) i)), .int (nI i), .ref ra]) (by rw [nI_clamp (by omega)]) ?_
              refine W.eq (congrArg (fun z => F0 m _ ls (.long z :: _)) (show lI ((mlW (bwd F G k P k) z P i) i) = lI (bwd F G k P k i) from congrArg lI mlW_i)) ?_
              refine lv_lload hx hb dX0_turnBack_91 (lv_at hl 1 rfl) ?_
              refine lv_lmul hx hb dX0_turnBack_93 ?_
              refine W.eq (congrArg (fun z => F0 m _ ls (.long z :: _)) (show lI (bwd F G k P k i) * lI z = lI ((bwd F G k P k i) * z) from lI_mul (bwd F G k P k i) z)) ?_
              refine lv_iload_n hx hb dX0_turnBack_94 rfl (lv_at hl 3 rfl) ?_
              refine lv_i2l (v := lI ((P : Nat) : Int)) hx hb dX0_turnBack_95 (nI_lI (by omega)) ?_
              refine lv_lrem hx hb dX0_turnBack_96 (fun zq9 => absurd ((lI_eq (b := 0) (by omega) (by omega) (by omega) (by omega)).mp zq9) (by omega)) ?_
              refine W.eq (congrArg (fun z => F0 m _ ls (.long z :: _)) (show lI ((bwd F G k P k i) * z) - lI ((bwd F G k P k i) * z) / lI ((P : Nat) : Int) * lI ((P : Nat) : Int) = lI (((bwd F G k P k i) * z) % ((P : Nat) : Int)) from lI_rem0 (by omega) (by omega) (by omega) (by omega))) ?_
              refine va_last hx hb hK hP hD hS 1 0 rfl rfl (vp_in_nI (by omega) (by omega)) dX0_turnBack_97 (fun H locs hP hD hS => ?_)
              rw [nI_clamp (show i < 2 ^ 31 by omega)] at hP hD
              rw [upI_l] at hP hD
              have hP : va_P (dC, dI) vwCl [(hh, .inr (0, [.ref lf, .ref rt, .ref rp])), (ra, .inl (cJ, 512, .inr (.inl (fun j => lI ((upI (mlW (bwd F G k P k) z P i) i (((bwd F G k P k i) * z) % ((P : Nat) : Int))) j))))), (rp, .inl (cJ, 256, .inr (.inl (fun j => lI (G j)))))] H := hP
              have hD : va_D A [(hh, .inr (0, [.ref lf, .ref rt, .ref rp])), (ra, .inl (cJ, 512, .inr (.inl (fun j => lI ((upI (mlW (bwd F G k P k) z P i) i (((bwd F G k P k i) * z) % ((P : Nat) : Int))) j))))), (rp, .inl (cJ, 256, .inr (.inl (fun j => lI (G j)))))] := hD
              rw [show upI (mlW (bwd F G k P k) z P i) i (((bwd F G k P k i) * z) % ((P : Nat) : Int)) = mlW (bwd F G k P k) z P (i + 1) from mlW_s] at hP hD
              have hP : va_P (dC, dI) vwCl [(hh, .inr (0, [.ref lf, .ref rt, .ref rp])), (ra, .inl (cJ, 512, .inr (.inl (fun j => lI ((mlW (bwd F G k P k) z P (i + 1)) j))))), (rp, .inl (cJ, 256, .inr (.inl (fun j => lI (G j)))))] H := hP
              have hD : va_D A [(hh, .inr (0, [.ref lf, .ref rt, .ref rp])), (ra, .inl (cJ, 512, .inr (.inl (fun j => lI ((mlW (bwd F G k P k) z P (i + 1)) j))))), (rp, .inl (cJ, 256, .inr (.inl (fun j => lI (G j)))))] := hD
              refine lv_iinc (v := nI (i + 1)) (lv' := [(7, .int (nI (i + 1))), (5, .long (lI z)), (4, .int (nI (2 ^ k))), (3, .int (nI P)), (2, .int (nI k)), (1, .ref ra), (0, .ref hh)]) hx hb dX0_turnBack_98 hl (k := 0) rfl (nI_add i 1) (by decide) rfl (fun ls hl => ?_)
              refine lv_goto (tgt := 77) hx hb dX0_turnBack_101 (by decide) ?_
              exact ih_77  (i + 1) (by omega) (by omega) _ _ _ (hP.sub [0, 1, 2] rfl) (hD.sub [0, 1, 2] (by decide) rfl) hS (lv_sub hl [0, 1, 2, 3, 4, 5, 6] rfl)
        exact key_77 (2 ^ k + 1) 0 (by omega) (by omega) _ _ _ (hP.sub [0, 1, 2] rfl) (hD.sub [0, 1, 2] (by decide) rfl) hS (lv_sub hl [0, 1, 2, 3, 4, 5, 6] rfl)
      · have c_1 : ¬ (k ≤ v) := fun zq9 => c_1 ((nI_leI (a := k) (b := v) (by omega) (by omega)).mpr zq9)
        have hv : v < k := by omega
        obtain ⟨e1, e2, e3, e4, e5⟩ := lvl zk hv
        refine lv_iconst (v := nI 1) hx hb dX0_turnBack_14 (by decide) ?_
        refine lv_iload hx hb dX0_turnBack_15 (lv_at hl 0 rfl) ?_
        refine lv_ishl hx hb dX0_turnBack_17 ?_
        refine W.eq (congrArg (fun z => F0 m _ ls (.int z :: _)) (show (nI 1) <<< ((nI v) &&& 31) = nI (2 ^ v) from zz_shl (by omega))) ?_
        refine lv_istore (lv' := [(6, .int (nI (2 ^ v))), (5, .int (nI v)), (4, .int (nI (2 ^ k))), (3, .int (nI P)), (2, .int (nI k)), (1, .ref ra), (0, .ref hh)]) hx hb dX0_turnBack_18 hl (by decide) rfl (fun ls hl => ?_)
        refine lv_iconst (v := nI 0) hx hb dX0_turnBack_20 (by decide) ?_
        rw [show bwd F G k P v = jnP (bwd F G k P v) G (2 ^ v) (2 ^ k / (2 * 2 ^ v)) P 0 from (jnP_0 _ _ _ _ _).symm] at hP hD
        have hP : va_P (dC, dI) vwCl [(hh, .inr (0, [.ref lf, .ref rt, .ref rp])), (ra, .inl (cJ, 512, .inr (.inl (fun j => lI ((jnP (bwd F G k P v) G (2 ^ v) (2 ^ k / (2 * 2 ^ v)) P 0) j))))), (rp, .inl (cJ, 256, .inr (.inl (fun j => lI (G j)))))] H := hP
        have hD : va_D A [(hh, .inr (0, [.ref lf, .ref rt, .ref rp])), (ra, .inl (cJ, 512, .inr (.inl (fun j => lI ((jnP (bwd F G k P v) G (2 ^ v) (2 ^ k / (2 * 2 ^ v)) P 0) j))))), (rp, .inl (cJ, 256, .inr (.inl (fun j => lI (G j)))))] := hD
        refine lv_istore (lv' := [(7, .int (nI 0)), (6, .int (nI (2 ^ v))), (5, .int (nI v)), (4, .int (nI (2 ^ k))), (3, .int (nI P)), (2, .int (nI k)), (1, .ref ra), (0, .ref hh)]) hx hb dX0_turnBack_21 hl (by decide) rfl (fun ls hl => ?_)
        have key_23 : ∀ (fuel : Nat) (a : Nat), (a ≤ 2 ^ k) → (a % (2 * 2 ^ v) = 0) → (2 ^ k - a < fuel) → ∀ (H : Heap) (locs : List Loc) (ls : Array Slot), va_P (dC, dI) vwCl [(hh, .inr (0, [.ref lf, .ref rt, .ref rp])), (ra, .inl (cJ, 512, .inr (.inl (fun j => lI ((jnP (bwd F G k P v) G (2 ^ v) (2 ^ k / (2 * 2 ^ v)) P a) j))))), (rp, .inl (cJ, 256, .inr (.inl (fun j => lI (G j)))))] H → va_D A [(hh, .inr (0, [.ref lf, .ref rt, .ref rp])), (ra, .inl (cJ, 512, .inr (.inl (fun j => lI ((jnP (bwd F G k P v) G (2 ^ v) (2 ^ k / (2 * 2 ^ v)) P a) j))))), (rp, .inl (cJ, 256, .inr (.inl (fun j => lI (G j)))))] → va_S A s.heap H locs → lv_has ls 8 [(7, .int (nI a)), (6, .int (nI (2 ^ v))), (5, .int (nI v)), (4, .int (nI (2 ^ k))), (3, .int (nI P)), (2, .int (nI k)), (1, .ref ra), (0, .ref hh)] → W p l e (headSpec wsX0_turnBack { frames := 2, cells := 0, slots := 0, locals := 50 }).room s m ([.ref hh, .ref ra, .int (nI k), .int (nI P)] : List Value).toArray below meth c H locs 0 0 (MQ below (q_X0_turnBack dC dI cJ hh lf rt rp ra F G k P  A) ([.ref hh, .ref ra, .int (nI k), .int (nI P)] : List Value).toArray s 0 0 A) (F0 m 23 ls []) := by
          intro fuel
          induction fuel with
          | zero => intro a; intros; omega
          | succ fuel ih_23 =>
            intro a ha1 ha2 hfu H locs ls hP hD hS hl
            refine lv_iload hx hb dX0_turnBack_23 (lv_at hl 0 rfl) ?_
            refine lv_iload hx hb dX0_turnBack_25 (lv_at hl 3 rfl) ?_
            refine lv_icmp_ge (tgt := 59) hx hb dX0_turnBack_27 (by decide) (fun c_3 => ?_) (fun c_3 => ?_)
            · have c_3 : 2 ^ k ≤ a := (nI_leI (a := 2 ^ k) (b := a) (by omega) (by omega)).mp c_3
              rw [show jnP (bwd F G k P v) G (2 ^ v) (2 ^ k / (2 * 2 ^ v)) P a = bwd F G k P (v + 1) from by rw [show a = 2 ^ k by omega]; rfl] at hP hD
              have hP : va_P (dC, dI) vwCl [(hh, .inr (0, [.ref lf, .ref rt, .ref rp])), (ra, .inl (cJ, 512, .inr (.inl (fun j => lI ((bwd F G k P (v + 1)) j))))), (rp, .inl (cJ, 256, .inr (.inl (fun j => lI (G j)))))] H := hP
              have hD : va_D A [(hh, .inr (0, [.ref lf, .ref rt, .ref rp])), (ra, .inl (cJ, 512, .inr (.inl (fun j => lI ((bwd F G k P (v + 1)) j))))), (rp, .inl (cJ, 256, .inr (.inl (fun j => lI (G j)))))] := hD
              refine lv_iinc (v := nI (v + 1)) (lv' := [(5, .int (nI (v + 1))), (7, .int (nI a)), (6, .int (nI (2 ^ v))), (4, .int (nI (2 ^ k))), (3, .int (nI P)), (2, .int (nI k)), (1, .ref ra), (0, .ref hh)]) hx hb dX0_turnBack_59 hl (k := 2) rfl (nI_add v 1) (by decide) rfl (fun ls hl => ?_)
              refine lv_goto (tgt := 8) hx hb dX0_turnBack_62 (by decide) ?_
              exact ih_8  (v + 1) (by omega) (by omega) _ _ _ (hP.sub [0, 1, 2] rfl) (hD.sub [0, 1, 2] (by decide) rfl) hS (lv_sub hl [0, 3, 4, 5, 6, 7] rfl)
            · have c_3 : ¬ (2 ^ k ≤ a) := fun zq9 => c_3 ((nI_leI (a := 2 ^ k) (b := a) (by omega) (by omega)).mpr zq9)
              have hbn := blk_next ha2 e1 (by omega) e4
              refine lv_aload_n hx hb dX0_turnBack_30 rfl (lv_at hl 7 rfl) ?_
              refine lv_aload_n hx hb dX0_turnBack_31 rfl (lv_at hl 6 rfl) ?_
              refine lv_iload hx hb dX0_turnBack_32 (lv_at hl 0 rfl) ?_
              refine lv_iload hx hb dX0_turnBack_34 (lv_at hl 1 rfl) ?_
              refine lv_iload hx hb dX0_turnBack_36 (lv_at hl 3 rfl) ?_
              refine lv_iconst (v := nI 2) hx hb dX0_turnBack_38 (by decide) ?_
              refine lv_iload hx hb dX0_turnBack_39 (lv_at hl 1 rfl) ?_
              refine lv_imul hx hb dX0_turnBack_41 ?_
              refine W.eq (congrArg (fun z => F0 m _ ls (.int z :: _)) (show (nI 2) * (nI (2 ^ v)) = nI (2 * (2 ^ v)) from pk_mul 2 (2 ^ v))) ?_
              refine lv_idiv hx hb dX0_turnBack_42 (nI_ne0 (by omega) (by omega)) ?_
              refine W.eq (congrArg (fun z => F0 m _ ls (.int z :: _)) (show nI (2 ^ k) / nI (2 * (2 ^ v)) = nI ((2 ^ k) / (2 * (2 ^ v))) from pk_div (by omega) (by omega) (by omega))) ?_
              refine lv_iload_n hx hb dX0_turnBack_43 rfl (lv_at hl 4 rfl) ?_
              have hPc := hP.sub (ws' := [(hh, .inr (0, [.ref lf, .ref rt, .ref rp])), (ra, .inl (cJ, 512, .inr (.inl (fun j => lI ((jnP (bwd F G k P v) G (2 ^ v) (2 ^ k / (2 * 2 ^ v)) P a) j))))), (rp, .inl (cJ, 256, .inr (.inl (fun j => lI (G j)))))]) [0, 1, 2] rfl
              have hDc := hD.sub (ws' := [(hh, .inr (0, [.ref lf, .ref rt, .ref rp])), (ra, .inl (cJ, 512, .inr (.inl (fun j => lI ((jnP (bwd F G k P v) G (2 ^ v) (2 ^ k / (2 * 2 ^ v)) P a) j))))), (rp, .inl (cJ, 256, .inr (.inl (fun j => lI (G j)))))]) [0, 1, 2] (by decide) rfl
              have hKc := hK.sub (tys' := [(cJ, .long)]) [0] rfl
              have hFc := va_free (wc := [(hh, .inr (0, [.ref lf, .ref rt, .ref rp])), (ra, .inl (cJ, 512, .inr (.inl (fun j => lI ((jnP (bwd F G k P v) G (2 ^ v) (2 ^ k / (2 * 2 ^ v)) P a) j))))), (rp, .inl (cJ, 256, .inr (.inl (fun j => lI (G j)))))]) hD hS hA [0, 1, 2] rfl
              refine va_callv (va_runV (As := [.ref ra, .int (nI a), .int (nI (2 ^ v)), .int (nI ((2 ^ k) / (2 * (2 ^ v)))), .int (nI P)]) (rest := []) ⟨hx, hb, hml, hown, hts⟩ (c_X0_joinBlock l dC dI cJ hh lf rt rp ra (jnP (bwd F G k P v) G (2 ^ v) (2 ^ k / (2 * 2 ^ v)) P a) G a (2 ^ v) ((2 ^ k) / (2 * (2 ^ v))) P H.size (fun j hj => jnP_rng (by omega) (bwd_rng (by omega) zF _) j (by omega)) (fun j hj => zG j (by omega)) (by omega) e2 (by omega) (by omega) (by omega)) (cwV 5 hts gX0_turnBack_X0_joinBlock rfl rfl rfl (by decide +kernel) ⟨Nat.le_of_ble_eq_true rfl, Nat.le_of_ble_eq_true rfl⟩) ⟨fun a U g mk q => by obtain ⟨q0, q1, qP, qK, qD⟩ := q; exact ⟨q0, q1, qP, va_K.moved (u := U) (U := U.calling g mk a) (Vm.Alike.refl U.vm) qK, qD⟩, va_recv hKc hPc (ci := 0) (q0 := 0) rfl rfl, fun U hU hW => ⟨rfl, by rw [hU], by rw [hU]; exact hPc, va_K.moved hW.alike hKc, hDc.weaken (fun _ _ _ _ => trivial)⟩⟩ rfl rfl hl.1 rfl (lv_room (Nat.le_of_ble_eq_true rfl)) dX0_turnBack_44 ⟨Nat.le_of_ble_eq_true rfl, Nat.le_of_ble_eq_true rfl⟩) hS (fun q _ h => hFc q h) hFc (fun u9 t9 H1 locs ht hvm hw hB hz1 hk1 hS => ?_)
              obtain ⟨hP1, hD1⟩ := hB
              rw [ht] at hP1
              try dsimp only at hw
              obtain ⟨hP, hD⟩ := va_join (wr := []) (w1 := [(hh, .inr (0, [.ref lf, .ref rt, .ref rp])), (ra, .inl (cJ, 512, .inr (.inl (fun j => lI ((jnB (jnP (bwd F G k P v) G (2 ^ v) (2 ^ k / (2 * 2 ^ v)) P a) G a (2 ^ v) ((2 ^ k) / (2 * (2 ^ v))) P (2 ^ v)) j))))), (rp, .inl (cJ, 256, .inr (.inl (fun j => lI (G j)))))]) hP hD [0, 1, 2] [] rfl rfl (by decide) (by decide) hk1 hFc hP1 hD1
              generalize H1 = H at hP hS ⊢
              have hP : va_P (dC, dI) vwCl [(hh, .inr (0, [.ref lf, .ref rt, .ref rp])), (ra, .inl (cJ, 512, .inr (.inl (fun j => lI ((jnB (jnP (bwd F G k P v) G (2 ^ v) (2 ^ k / (2 * 2 ^ v)) P a) G a (2 ^ v) ((2 ^ k) / (2 * (2 ^ v))) P (2 ^ v)) j))))), (rp, .inl (cJ, 256, .inr (.inl (fun j => lI (G j)))))] H := hP
              have hD : va_D A [(hh, .inr (0, [.ref lf, .ref rt, .ref rp])), (ra, .inl (cJ, 512, .inr (.inl (fun j => lI ((jnB (jnP (bwd F G k P v) G (2 ^ v) (2 ^ k / (2 * 2 ^ v)) P a) G a (2 ^ v) ((2 ^ k) / (2 * (2 ^ v))) P (2 ^ v)) j))))), (rp, .inl (cJ, 256, .inr (.inl (fun j => lI (G j)))))] := hD
              clear hPc hDc hKc hFc hP1 hD1 hk1 hz1 hvm ht
              clear hw
              rw [show jnB (jnP (bwd F G k P v) G (2 ^ v) (2 ^ k / (2 * 2 ^ v)) P a) G a (2 ^ v) ((2 ^ k) / (2 * (2 ^ v))) P (2 ^ v) = jnP (bwd F G k P v) G (2 ^ v) (2 ^ k / (2 * 2 ^ v)) P (a + 2 * 2 ^ v) from jnP_s ha2] at hP hD
              have hP : va_P (dC, dI) vwCl [(hh, .inr (0, [.ref lf, .ref rt, .ref rp])), (ra, .inl (cJ, 512, .inr (.inl (fun j => lI ((jnP (bwd F G k P v) G (2 ^ v) (2 ^ k / (2 * 2 ^ v)) P (a + 2 * 2 ^ v)) j))))), (rp, .inl (cJ, 256, .inr (.inl (fun j => lI (G j)))))] H := hP
              have hD : va_D A [(hh, .inr (0, [.ref lf, .ref rt, .ref rp])), (ra, .inl (cJ, 512, .inr (.inl (fun j => lI ((jnP (bwd F G k P v) G (2 ^ v) (2 ^ k / (2 * 2 ^ v)) P (a + 2 * 2 ^ v)) j))))), (rp, .inl (cJ, 256, .inr (.inl (fun j => lI (G j)))))] := hD
              refine lv_iload hx hb dX0_turnBack_47 (lv_at hl 0 rfl) ?_
              refine lv_iconst (v := nI 2) hx hb dX0_turnBack_49 (by decide) ?_
              refine lv_iload hx hb dX0_turnBack_50 (lv_at hl 1 rfl) ?_
              refine lv_imul hx hb dX0_turnBack_52 ?_
              refine W.eq (congrArg (fun z => F0 m _ ls (.int z :: _)) (show (nI 2) * (nI (2 ^ v)) = nI (2 * (2 ^ v)) from pk_mul 2 (2 ^ v))) ?_
              refine lv_iadd hx hb dX0_turnBack_53 ?_
              refine W.eq (congrArg (fun z => F0 m _ ls (.int z :: _)) (show (nI a) + (nI (2 * (2 ^ v))) = nI (a + (2 * (2 ^ v))) from nI_add a (2 * (2 ^ v)))) ?_
              refine lv_istore (lv' := [(7, .int (nI (a + (2 * (2 ^ v))))), (6, .int (nI (2 ^ v))), (5, .int (nI v)), (4, .int (nI (2 ^ k))), (3, .int (nI P)), (2, .int (nI k)), (1, .ref ra), (0, .ref hh)]) hx hb dX0_turnBack_54 hl (by decide) rfl (fun ls hl => ?_)
              refine lv_goto (tgt := 23) hx hb dX0_turnBack_56 (by decide) ?_
              exact ih_23  (a + 2 * 2 ^ v) (hbn.1) (hbn.2) (by omega) _ _ _ (hP.sub [0, 1, 2] rfl) (hD.sub [0, 1, 2] (by decide) rfl) hS (lv_sub hl [0, 1, 2, 3, 4, 5, 6, 7] rfl)
        exact key_23 (2 ^ k + 1) 0 (by omega) (Nat.zero_mod _) (by omega) _ _ _ (hP.sub [0, 1, 2] rfl) (hD.sub [0, 1, 2] (by decide) rfl) hS (lv_sub hl [0, 1, 2, 3, 4, 5, 6, 7] rfl)
  exact key_8 (k + 1) 0 (by omega) (by omega) _ _ _ (hP.sub [0, 1, 2] rfl) (hD.sub [0, 1, 2] (by decide) rfl) hS (lv_sub hl [0, 1, 5, 4, 3, 2] rfl)

abbrev q_X0_loadRemainders (dC : Nat → ClassId) (dI : Nat → Nat → Nat) (cI cJ : ClassId) (hh lf rt rp ra ia : Nat) (f : Nat → Int32) (F : Nat → Int) (n P : Nat) (A : Nat → Prop) : Array Value → State → Outcome → State → Prop := va_Qv (fun (u : Unit) => True) (fun u t => va_P (dC, dI) vwCl [(hh, .inr (0, [.ref lf, .ref rt, .ref rp])), (ra, .inl (cI, 256, .inl f)), (ia, .inl (cJ, 512, .inr (.inl (fun j => lI ((ldR f F n P n) j)))))] t.heap ∧ va_D A [(hh, .inr (0, [.ref lf, .ref rt, .ref rp])), (ra, .inl (cI, 256, .inl f)), (ia, .inl (cJ, 512, .inr (.inl (fun j => lI ((ldR f F n P n) j)))))]) A
set_option maxHeartbeats 4000000 in
set_option maxRecDepth 100000 in
theorem c_X0_loadRemainders (l : Launch) (dC : Nat → ClassId) (dI : Nat → Nat → Nat) (cI cJ : ClassId) (hh lf rt rp ra ia : Nat) (f : Nat → Int32) (F : Nat → Int) (n P : Nat) (sz : Nat) (zn : n ≤ 256) (hp1 : 1 < P) (hp2 : P ≤ 2 ^ 30) : Met l yX0_loadRemainders wsX0_loadRemainders ({ frames := 1, cells := 0, slots := 0, locals := 24 }) (va_Pc [.ref hh, .ref ra, .int (nI n), .ref ia, .int (nI P)] (fun U => U.heap.size = sz ∧ va_P (dC, dI) vwCl [(hh, .inr (0, [.ref lf, .ref rt, .ref rp])), (ra, .inl (cI, 256, .inl f)), (ia, .inl (cJ, 512, .inr (.inl (fun j => lI (F j)))))] U.heap ∧ va_K (dC, dI) vwCl [(cI, .int), (cJ, .long)] U ∧ va_D (fun _ => True) [(hh, .inr (0, [.ref lf, .ref rt, .ref rp])), (ra, .inl (cI, 256, .inl f)), (ia, .inl (cJ, 512, .inr (.inl (fun j => lI (F j)))))])) (q_X0_loadRemainders dC dI cI cJ hh lf rt rp ra ia f F n P (va_A [(hh, .inr (0, [.ref lf, .ref rt, .ref rp])), (ra, .inl (cI, 256, .inl f)), (ia, .inl (cJ, 512, .inr (.inl (fun j => lI (F j)))))] sz)) 0 0 (va_A [(hh, .inr (0, [.ref lf, .ref rt, .ref rp])), (ra, .inl (cI, 256, .inl f)), (ia, .inl (cJ, 512, .inr (.inl (fun j => lI (F j)))))] sz) := by
  refine Met.ofW (cc := cX0_loadRemainders) (maxL := 6) (ret := none) (by decide) rfl ?_
  intro p e s m args below meth c s₁ B hml hv
  obtain ⟨rfl, hsz, hP, hK, hD0⟩ := hv
  have hx := B.exec
  have hb := B.bytes
  have hr := B.returns
  have hts := atoms_spec (ws := wsX0_loadRemainders) B.pre
  have hown : s.vm.findClass RX0 = some m.cls := findClass_of_methodNamed B.named
  have hlocks := B.notSynchronized
  subst hsz
  have hD := hD0.self (sz := s.heap.size)
  generalize hAe : va_A [(hh, .inr (0, [.ref lf, .ref rt, .ref rp])), (ra, .inl (cI, 256, .inl f)), (ia, .inl (cJ, 512, .inr (.inl (fun j => lI (F j)))))] s.heap.size = A at hD ⊢
  have hA : ∀ q : Nat, s.heap.size ≤ q → A q := fun q h => by rw [← hAe]; exact Or.inr h
  have hS : va_S A s.heap s.heap [] := va_S.rf
  have hP : va_P (dC, dI) vwCl [(hh, .inr (0, [.ref lf, .ref rt, .ref rp])), (ra, .inl (cI, 256, .inl f)), (ia, .inl (cJ, 512, .inr (.inl (fun j => lI (F j)))))] s.heap := hP
  have hl := lv_entry (([.ref hh, .ref ra, .int (nI n), .ref ia, .int (nI P)] : List Value)) (n := 6) (Nat.le_of_ble_eq_true rfl)
  rw [lg_entry_eq]
  generalize (lg_sl (([.ref hh, .ref ra, .int (nI n), .ref ia, .int (nI P)] : List Value)) ++ List.replicate (6 - (lg_sl (([.ref hh, .ref ra, .int (nI n), .ref ia, .int (nI P)] : List Value))).length) Slot.unset).toArray = ls at hl ⊢
  have hl : lv_has ls 6 [(0, .ref hh), (1, .ref ra), (2, .int (nI n)), (3, .ref ia), (4, .int (nI P))] := hl
  obtain ⟨H, hHe⟩ : ∃ H : Heap, H = s.heap := ⟨_, rfl⟩
  rw [← hHe] at hP
  have hS : va_S A s.heap H [] := by rw [hHe]; exact hS
  obtain ⟨locs, hlo⟩ : ∃ L : List Loc, L = [] := ⟨_, rfl⟩
  rw [← hlo] at hS ⊢
  rw [← hHe]
  refine lv_iconst (v := nI 0) hx hb dX0_loadRemainders_0 (by decide) ?_
  rw [show F = ldR f F n P 0 from (ldR_0 _ _ _ _).symm] at hP hD
  have hP : va_P (dC, dI) vwCl [(hh, .inr (0, [.ref lf, .ref rt, .ref rp])), (ra, .inl (cI, 256, .inl f)), (ia, .inl (cJ, 512, .inr (.inl (fun j => lI ((ldR f F n P 0) j)))))] H := hP
  have hD : va_D A [(hh, .inr (0, [.ref lf, .ref rt, .ref rp])), (ra, .inl (cI, 256, .inl f)), (ia, .inl (cJ, 512, .inr (.inl (fun j => lI ((ldR f F n P 0) j)))))] := hD
  refine lv_istore (lv' := [(5, .int (nI 0)), (0, .ref hh), (1, .ref ra), (2, .int (nI n)), (3, .ref ia), (4, .int (nI P))]) hx hb dX0_loadRemainders_1 hl (by decide) rfl (fun ls hl => ?_)
  have key_3 : ∀ (fuel : Nat) (t : Nat), (t ≤ n) → (n - t < fuel) → ∀ (H : Heap) (locs : List Loc) (ls : Array Slot), va_P (dC, dI) vwCl [(hh, .inr (0, [.ref lf, .ref rt, .ref rp])), (ra, .inl (cI, 256, .inl f)), (ia, .inl (cJ, 512, .inr (.inl (fun j => lI ((ldR f F n P t) j)))))] H → va_D A [(hh, .inr (0, [.ref lf, .ref rt, .ref rp])), (ra, .inl (cI, 256, .inl f)), (ia, .inl (cJ, 512, .inr (.inl (fun j => lI ((ldR f F n P t) j)))))] → va_S A s.heap H locs → lv_has ls 6 [(5, .int (nI t)), (4, .int (nI P)), (3, .ref ia), (2, .int (nI n)), (1, .ref ra), (0, .ref hh)] → W p l e (headSpec wsX0_loadRemainders { frames := 1, cells := 0, slots := 0, locals := 24 }).room s m ([.ref hh, .ref ra, .int (nI n), .ref ia, .int (nI P)] : List Value).toArray below meth c H locs 0 0 (MQ below (q_X0_loadRemainders dC dI cI cJ hh lf rt rp ra ia f F n P  A) ([.ref hh, .ref ra, .int (nI n), .ref ia, .int (nI P)] : List Value).toArray s 0 0 A) (F0 m 3 ls []) := by
    intro fuel
    induction fuel with
    | zero => intro t; intros; omega
    | succ fuel ih_3 =>
      intro t ht hfu H locs ls hP hD hS hl
      refine lv_iload hx hb dX0_loadRemainders_3 (lv_at hl 0 rfl) ?_
      refine lv_iload_n hx hb dX0_loadRemainders_5 rfl (lv_at hl 3 rfl) ?_
      refine lv_icmp_ge (tgt := 36) hx hb dX0_loadRemainders_6 (by decide) (fun c_1 => ?_) (fun c_1 => ?_)
      · have c_1 : n ≤ t := (nI_leI (a := n) (b := t) (by omega) (by omega)).mp c_1
        rw [show ldR f F n P t = ldR f F n P n from by rw [show t = n by omega]] at hP hD
        have hP : va_P (dC, dI) vwCl [(hh, .inr (0, [.ref lf, .ref rt, .ref rp])), (ra, .inl (cI, 256, .inl f)), (ia, .inl (cJ, 512, .inr (.inl (fun j => lI ((ldR f F n P n) j)))))] H := hP
        have hD : va_D A [(hh, .inr (0, [.ref lf, .ref rt, .ref rp])), (ra, .inl (cI, 256, .inl f)), (ia, .inl (cJ, 512, .inr (.inl (fun j => lI ((ldR f F n P n) j)))))] := hD
        have hP9 : va_P (dC, dI) vwCl [(hh, .inr (0, [.ref lf, .ref rt, .ref rp])), (ra, .inl (cI, 256, .inl f)), (ia, .inl (cJ, 512, .inr (.inl (fun j => lI ((ldR f F n P n) j)))))] H := hP.sub [0, 1, 2] rfl
        have hD9 : va_D A [(hh, .inr (0, [.ref lf, .ref rt, .ref rp])), (ra, .inl (cI, 256, .inl f)), (ia, .inl (cJ, 512, .inr (.inl (fun j => lI ((ldR f F n P n) j)))))] := hD.sub [0, 1, 2] (by decide) rfl
        exact W.vret hx hb hr (fun t ht hW => ⟨⟨(), rfl, trivial, by rw [ht]; exact hP9, hD9⟩, hS.F ht⟩) hS.2.2 dX0_loadRemainders_36
      · have c_1 : ¬ (n ≤ t) := fun zq9 => c_1 ((nI_leI (a := n) (b := t) (by omega) (by omega)).mpr zq9)
        refine lv_aload_n hx hb dX0_loadRemainders_9 rfl (lv_at hl 2 rfl) ?_
        refine lv_iload hx hb dX0_loadRemainders_10 (lv_at hl 0 rfl) ?_
        refine lv_aload_n hx hb dX0_loadRemainders_12 rfl (lv_at hl 4 rfl) ?_
        refine lv_iload hx hb dX0_loadRemainders_13 (lv_at hl 0 rfl) ?_
        refine va_iald hx hb hK hP 1 0 rfl rfl (vp_in_nI (by omega) (by omega)) dX0_loadRemainders_15 ?_
        refine W.eq (g2 := F0 m _ ls [.int (f t), .int (nI t), .ref ia]) (by rw [nI_clamp (by omega)]) ?_
        refine lv_i2l (v := lI ((f t).toInt)) hx hb dX0_loadRemainders_16 (i2l_I (f t)) ?_
        refine lv_iload hx hb dX0_loadRemainders_17 (lv_at hl 1 rfl) ?_
        have b1 := Int32.le_toInt (f t)
        have b2 := Int32.toInt_lt (f t)
        have hPc := hP.sub (ws' := []) [] rfl
        have hDc := hD.sub (ws' := []) [] (by decide) rfl
        have hKc := hK.sub (tys' := []) [] rfl
        have hFc := va_free (wc := []) hD hS hA [] rfl
        refine va_calll (va_runS (As := [.long (lI ((f t).toInt)), .int (nI P)]) (rest := [.int (nI t), .ref ia]) ⟨hx, hb, hml, hown, hts⟩ (c_X1_remainder l dC dI ((f t).toInt) P H.size (by omega) (by omega) (by omega) (by omega)) (va_cwS 2 hts gX0_loadRemainders_X1_remainder rfl rfl rfl (by decide +kernel) ⟨Nat.le_of_ble_eq_true rfl, Nat.le_of_ble_eq_true rfl⟩) ⟨fun a U g mk q => by obtain ⟨q0, q1, qP, qK, qD⟩ := q; exact ⟨q0, q1, qP, va_K.moved (u := U) (U := U.calling g mk a) (Vm.Alike.refl U.vm) qK, qD⟩, fun U hU hW => ⟨rfl, by rw [hU], by rw [hU]; exact hPc, va_K.moved hW.alike hKc, hDc.weaken (fun _ _ _ _ => trivial)⟩⟩ rfl rfl hl.1 rfl (lv_room (Nat.le_of_ble_eq_true rfl)) dX0_loadRemainders_19 ⟨Nat.le_of_ble_eq_true rfl, Nat.le_of_ble_eq_true rfl⟩) hS (fun q _ h => hFc q h) hFc (fun r9 u9 t9 H1 locs ht hvm hw hB hz1 hk1 hS => ?_)
        obtain ⟨hP1, hD1⟩ := hB
        rw [ht] at hP1
        try dsimp only at hw
        obtain ⟨hP, hD⟩ := va_join (wr := [(hh, .inr (0, [.ref lf, .ref rt, .ref rp])), (ra, .inl (cI, 256, .inl f)), (ia, .inl (cJ, 512, .inr (.inl (fun j => lI ((ldR f F n P t) j)))))]) (w1 := []) hP hD [] [0, 1, 2] rfl rfl (by decide) (by decide) hk1 hFc hP1 hD1
        generalize H1 = H at hP hS ⊢
        have hP : va_P (dC, dI) vwCl [(hh, .inr (0, [.ref lf, .ref rt, .ref rp])), (ra, .inl (cI, 256, .inl f)), (ia, .inl (cJ, 512, .inr (.inl (fun j => lI ((ldR f F n P t) j)))))] H := hP
        have hD : va_D A [(hh, .inr (0, [.ref lf, .ref rt, .ref rp])), (ra, .inl (cI, 256, .inl f)), (ia, .inl (cJ, 512, .inr (.inl (fun j => lI ((ldR f F n P t) j)))))] := hD
        clear hPc hDc hKc hFc hP1 hD1 hk1 hz1 hvm ht
        subst hw
        refine va_last hx hb hK hP hD hS 2 1 rfl rfl (vp_in_nI (by omega) (by omega)) dX0_loadRemainders_22 (fun H locs hP hD hS => ?_)
        rw [nI_clamp (show t < 2 ^ 31 by omega)] at hP hD
        rw [upI_l] at hP hD
        have hP : va_P (dC, dI) vwCl [(hh, .inr (0, [.ref lf, .ref rt, .ref rp])), (ra, .inl (cI, 256, .inl f)), (ia, .inl (cJ, 512, .inr (.inl (fun j => lI ((upI (ldR f F n P t) t (((f t).toInt) % ((P : Nat) : Int))) j)))))] H := hP
        have hD : va_D A [(hh, .inr (0, [.ref lf, .ref rt, .ref rp])), (ra, .inl (cI, 256, .inl f)), (ia, .inl (cJ, 512, .inr (.inl (fun j => lI ((upI (ldR f F n P t) t (((f t).toInt) % ((P : Nat) : Int))) j)))))] := hD
        refine lv_aload_n hx hb dX0_loadRemainders_23 rfl (lv_at hl 2 rfl) ?_
        refine lv_iload hx hb dX0_loadRemainders_24 (lv_at hl 0 rfl) ?_
        refine lv_iload_n hx hb dX0_loadRemainders_26 rfl (lv_at hl 3 rfl) ?_
        refine lv_iadd hx hb dX0_loadRemainders_27 ?_
        refine W.eq (congrArg (fun z => F0 m _ ls (.int z :: _)) (show (nI t) + (nI n) = nI (t + n) from nI_add t n)) ?_
        refine lv_lconst (v := lI 0) hx hb dX0_loadRemainders_28 (by decide) ?_
        refine va_last hx hb hK hP hD hS 2 1 rfl rfl (vp_in_nI (by omega) (by omega)) dX0_loadRemainders_29 (fun H locs hP hD hS => ?_)
        rw [nI_clamp (show t + n < 2 ^ 31 by omega)] at hP hD
        rw [upI_l] at hP hD
        have hP : va_P (dC, dI) vwCl [(hh, .inr (0, [.ref lf, .ref rt, .ref rp])), (ra, .inl (cI, 256, .inl f)), (ia, .inl (cJ, 512, .inr (.inl (fun j => lI ((upI (upI (ldR f F n P t) t (((f t).toInt) % ((P : Nat) : Int))) (t + n) 0) j)))))] H := hP
        have hD : va_D A [(hh, .inr (0, [.ref lf, .ref rt, .ref rp])), (ra, .inl (cI, 256, .inl f)), (ia, .inl (cJ, 512, .inr (.inl (fun j => lI ((upI (upI (ldR f F n P t) t (((f t).toInt) % ((P : Nat) : Int))) (t + n) 0) j)))))] := hD
        rw [show upI (upI (ldR f F n P t) t (((f t).toInt) % ((P : Nat) : Int))) (t + n) 0 = ldR f F n P (t + 1) from ldR_s (by omega)] at hP hD
        have hP : va_P (dC, dI) vwCl [(hh, .inr (0, [.ref lf, .ref rt, .ref rp])), (ra, .inl (cI, 256, .inl f)), (ia, .inl (cJ, 512, .inr (.inl (fun j => lI ((ldR f F n P (t + 1)) j)))))] H := hP
        have hD : va_D A [(hh, .inr (0, [.ref lf, .ref rt, .ref rp])), (ra, .inl (cI, 256, .inl f)), (ia, .inl (cJ, 512, .inr (.inl (fun j => lI ((ldR f F n P (t + 1)) j)))))] := hD
        refine lv_iinc (v := nI (t + 1)) (lv' := [(5, .int (nI (t + 1))), (4, .int (nI P)), (3, .ref ia), (2, .int (nI n)), (1, .ref ra), (0, .ref hh)]) hx hb dX0_loadRemainders_30 hl (k := 0) rfl (nI_add t 1) (by decide) rfl (fun ls hl => ?_)
        refine lv_goto (tgt := 3) hx hb dX0_loadRemainders_33 (by decide) ?_
        exact ih_3  (t + 1) (by omega) (by omega) _ _ _ (hP.sub [0, 1, 2] rfl) (hD.sub [0, 1, 2] (by decide) rfl) hS (lv_sub hl [0, 1, 2, 3, 4, 5] rfl)
  exact key_3 (n + 1) 0 (by omega) (by omega) _ _ _ (hP.sub [0, 1, 2] rfl) (hD.sub [0, 1, 2] (by decide) rfl) hS (lv_sub hl [0, 5, 4, 3, 2, 1] rfl)

abbrev q_X0_takeAwayUpperHalf (dC : Nat → ClassId) (dI : Nat → Nat → Nat) (cJ : ClassId) (hh lf rt rp : Nat) (F : Nat → Int) (n P : Nat) (A : Nat → Prop) : Array Value → State → Outcome → State → Prop := va_Qv (fun (u : Unit) => True) (fun u t => va_P (dC, dI) vwCl [(hh, .inr (0, [.ref lf, .ref rt, .ref rp])), (lf, .inl (cJ, 512, .inr (.inl (fun j => lI ((tkU F n P n) j)))))] t.heap ∧ va_D A [(hh, .inr (0, [.ref lf, .ref rt, .ref rp])), (lf, .inl (cJ, 512, .inr (.inl (fun j => lI ((tkU F n P n) j)))))]) A
set_option maxHeartbeats 4000000 in
set_option maxRecDepth 100000 in
theorem c_X0_takeAwayUpperHalf (l : Launch) (dC : Nat → ClassId) (dI : Nat → Nat → Nat) (cJ : ClassId) (hh lf rt rp : Nat) (F : Nat → Int) (n P : Nat) (sz : Nat) (zF : inR F (2 * n) P) (zn : n ≤ 256) (hp1 : 1 < P) (hp2 : P ≤ 2 ^ 30) : Met l yX0_takeAwayUpperHalf wsX0_takeAwayUpperHalf ({ frames := 1, cells := 0, slots := 0, locals := 24 }) (va_Pc [.ref hh, .int (nI n), .int (nI P)] (fun U => U.heap.size = sz ∧ va_P (dC, dI) vwCl [(hh, .inr (0, [.ref lf, .ref rt, .ref rp])), (lf, .inl (cJ, 512, .inr (.inl (fun j => lI (F j)))))] U.heap ∧ va_K (dC, dI) vwCl [(cJ, .long)] U ∧ va_D (fun _ => True) [(hh, .inr (0, [.ref lf, .ref rt, .ref rp])), (lf, .inl (cJ, 512, .inr (.inl (fun j => lI (F j)))))])) (q_X0_takeAwayUpperHalf dC dI cJ hh lf rt rp F n P (va_A [(hh, .inr (0, [.ref lf, .ref rt, .ref rp])), (lf, .inl (cJ, 512, .inr (.inl (fun j => lI (F j)))))] sz)) 0 0 (va_A [(hh, .inr (0, [.ref lf, .ref rt, .ref rp])), (lf, .inl (cJ, 512, .inr (.inl (fun j => lI (F j)))))] sz) := by
  refine Met.ofW (cc := cX0_takeAwayUpperHalf) (maxL := 4) (ret := none) (by decide) rfl ?_
  intro p e s m args below meth c s₁ B hml hv
  obtain ⟨rfl, hsz, hP, hK, hD0⟩ := hv
  have hx := B.exec
  have hb := B.bytes
  have hr := B.returns
  have hts := atoms_spec (ws := wsX0_takeAwayUpperHalf) B.pre
  have hown : s.vm.findClass RX0 = some m.cls := findClass_of_methodNamed B.named
  have hlocks := B.notSynchronized
  subst hsz
  have hD := hD0.self (sz := s.heap.size)
  generalize hAe : va_A [(hh, .inr (0, [.ref lf, .ref rt, .ref rp])), (lf, .inl (cJ, 512, .inr (.inl (fun j => lI (F j)))))] s.heap.size = A at hD ⊢
  have hA : ∀ q : Nat, s.heap.size ≤ q → A q := fun q h => by rw [← hAe]; exact Or.inr h
  have hS : va_S A s.heap s.heap [] := va_S.rf
  have hP : va_P (dC, dI) vwCl [(hh, .inr (0, [.ref lf, .ref rt, .ref rp])), (lf, .inl (cJ, 512, .inr (.inl (fun j => lI (F j)))))] s.heap := hP
  have hl := lv_entry (([.ref hh, .int (nI n), .int (nI P)] : List Value)) (n := 4) (Nat.le_of_ble_eq_true rfl)
  rw [lg_entry_eq]
  generalize (lg_sl (([.ref hh, .int (nI n), .int (nI P)] : List Value)) ++ List.replicate (4 - (lg_sl (([.ref hh, .int (nI n), .int (nI P)] : List Value))).length) Slot.unset).toArray = ls at hl ⊢
  have hl : lv_has ls 4 [(0, .ref hh), (1, .int (nI n)), (2, .int (nI P))] := hl
  obtain ⟨H, hHe⟩ : ∃ H : Heap, H = s.heap := ⟨_, rfl⟩
  rw [← hHe] at hP
  have hS : va_S A s.heap H [] := by rw [hHe]; exact hS
  obtain ⟨locs, hlo⟩ : ∃ L : List Loc, L = [] := ⟨_, rfl⟩
  rw [← hlo] at hS ⊢
  rw [← hHe]
  refine lv_iconst (v := nI 0) hx hb dX0_takeAwayUpperHalf_0 (by decide) ?_
  rw [show F = tkU F n P 0 from (tkU_0 _ _ _).symm] at hP hD
  have hP : va_P (dC, dI) vwCl [(hh, .inr (0, [.ref lf, .ref rt, .ref rp])), (lf, .inl (cJ, 512, .inr (.inl (fun j => lI ((tkU F n P 0) j)))))] H := hP
  have hD : va_D A [(hh, .inr (0, [.ref lf, .ref rt, .ref rp])), (lf, .inl (cJ, 512, .inr (.inl (fun j => lI ((tkU F n P 0) j)))))] := hD
  refine lv_istore_n (lv' := [(3, .int (nI 0)), (0, .ref hh), (1, .int (nI n)), (2, .int (nI P))]) hx hb dX0_takeAwayUpperHalf_1 rfl hl (by decide) rfl (fun ls hl => ?_)
  have key_2 : ∀ (fuel : Nat) (t : Nat), (t ≤ n) → (n - t < fuel) → ∀ (H : Heap) (locs : List Loc) (ls : Array Slot), va_P (dC, dI) vwCl [(hh, .inr (0, [.ref lf, .ref rt, .ref rp])), (lf, .inl (cJ, 512, .inr (.inl (fun j => lI ((tkU F n P t) j)))))] H → va_D A [(hh, .inr (0, [.ref lf, .ref rt, .ref rp])), (lf, .inl (cJ, 512, .inr (.inl (fun j => lI ((tkU F n P t) j)))))] → va_S A s.heap H locs → lv_has ls 4 [(3, .int (nI t)), (2, .int (nI P)), (1, .int (nI n)), (0, .ref hh)] → W p l e (headSpec wsX0_takeAwayUpperHalf { frames := 1, cells := 0, slots := 0, locals := 24 }).room s m ([.ref hh, .int (nI n), .int (nI P)] : List Value).toArray below meth c H locs 0 0 (MQ below (q_X0_takeAwayUpperHalf dC dI cJ hh lf rt rp F n P  A) ([.ref hh, .int (nI n), .int (nI P)] : List Value).toArray s 0 0 A) (F0 m 2 ls []) := by
    intro fuel
    induction fuel with
    | zero => intro t; intros; omega
    | succ fuel ih_2 =>
      intro t ht hfu H locs ls hP hD hS hl
      refine lv_iload_n hx hb dX0_takeAwayUpperHalf_2 rfl (lv_at hl 0 rfl) ?_
      refine lv_iload_n hx hb dX0_takeAwayUpperHalf_3 rfl (lv_at hl 2 rfl) ?_
      refine lv_icmp_ge (tgt := 38) hx hb dX0_takeAwayUpperHalf_4 (by decide) (fun c_1 => ?_) (fun c_1 => ?_)
      · have c_1 : n ≤ t := (nI_leI (a := n) (b := t) (by omega) (by omega)).mp c_1
        rw [show tkU F n P t = tkU F n P n from by rw [show t = n by omega]] at hP hD
        have hP : va_P (dC, dI) vwCl [(hh, .inr (0, [.ref lf, .ref rt, .ref rp])), (lf, .inl (cJ, 512, .inr (.inl (fun j => lI ((tkU F n P n) j)))))] H := hP
        have hD : va_D A [(hh, .inr (0, [.ref lf, .ref rt, .ref rp])), (lf, .inl (cJ, 512, .inr (.inl (fun j => lI ((tkU F n P n) j)))))] := hD
        have hP9 : va_P (dC, dI) vwCl [(hh, .inr (0, [.ref lf, .ref rt, .ref rp])), (lf, .inl (cJ, 512, .inr (.inl (fun j => lI ((tkU F n P n) j)))))] H := hP.sub [0, 1] rfl
        have hD9 : va_D A [(hh, .inr (0, [.ref lf, .ref rt, .ref rp])), (lf, .inl (cJ, 512, .inr (.inl (fun j => lI ((tkU F n P n) j)))))] := hD.sub [0, 1] (by decide) rfl
        exact W.vret hx hb hr (fun t ht hW => ⟨⟨(), rfl, trivial, by rw [ht]; exact hP9, hD9⟩, hS.F ht⟩) hS.2.2 dX0_takeAwayUpperHalf_38
      · have c_1 : ¬ (n ≤ t) := fun zq9 => c_1 ((nI_leI (a := n) (b := t) (by omega) (by omega)).mpr zq9)
        have f1 := zF t (by omega)
        have f2 := zF (t + n) (by omega)
        refine lv_aload_n hx hb dX0_takeAwayUpperHalf_7 rfl (lv_at hl 3 rfl) ?_
        refine va_get (D := (dC, dI)) (ci := 0) (v := .ref lf) (C := RX0) (T := TX0) (N := 3) hx hb hts (by decide +kernel) hown hK hP 0 rfl rfl 0 (by decide) (hts (.fieldLink RX0 9 "ThreePrimes$Folder" "left" "[J") (by decide +kernel)) (fun _ h9 => h9) rfl dX0_takeAwayUpperHalf_8 ?_
        refine lv_iload_n hx hb dX0_takeAwayUpperHalf_11 rfl (lv_at hl 0 rfl) ?_
        refine lv_aload_n hx hb dX0_takeAwayUpperHalf_12 rfl (lv_at hl 3 rfl) ?_
        refine va_get (D := (dC, dI)) (ci := 0) (v := .ref lf) (C := RX0) (T := TX0) (N := 3) hx hb hts (by decide +kernel) hown hK hP 0 rfl rfl 0 (by decide) (hts (.fieldLink RX0 9 "ThreePrimes$Folder" "left" "[J") (by decide +kernel)) (fun _ h9 => h9) rfl dX0_takeAwayUpperHalf_13 ?_
        refine lv_iload_n hx hb dX0_takeAwayUpperHalf_16 rfl (lv_at hl 0 rfl) ?_
        refine va_lald hx hb hK hP 1 0 rfl rfl (vp_in_nI (by omega) (by omega)) dX0_takeAwayUpperHalf_17 ?_
        refine W.eq (g2 := F0 m _ ls [.long (lI ((tkU F n P t) t)), .int (nI t), .ref lf]) (by rw [nI_clamp (by omega)]) ?_
        refine W.eq (congrArg (fun z => F0 m _ ls (.long z :: _)) (show lI ((tkU F n P t) t) = lI (F t) from congrArg lI tkU_i)) ?_
        refine lv_aload_n hx hb dX0_takeAwayUpperHalf_18 rfl (lv_at hl 3 rfl) ?_
        refine va_get (D := (dC, dI)) (ci := 0) (v := .ref lf) (C := RX0) (T := TX0) (N := 3) hx hb hts (by decide +kernel) hown hK hP 0 rfl rfl 0 (by decide) (hts (.fieldLink RX0 9 "ThreePrimes$Folder" "left" "[J") (by decide +kernel)) (fun _ h9 => h9) rfl dX0_takeAwayUpperHalf_19 ?_
        refine lv_iload_n hx hb dX0_takeAwayUpperHalf_22 rfl (lv_at hl 0 rfl) ?_
        refine lv_iload_n hx hb dX0_takeAwayUpperHalf_23 rfl (lv_at hl 2 rfl) ?_
        refine lv_iadd hx hb dX0_takeAwayUpperHalf_24 ?_
        refine W.eq (congrArg (fun z => F0 m _ ls (.int z :: _)) (show (nI t) + (nI n) = nI (t + n) from nI_add t n)) ?_
        refine va_lald hx hb hK hP 1 0 rfl rfl (vp_in_nI (by omega) (by omega)) dX0_takeAwayUpperHalf_25 ?_
        refine W.eq (g2 := F0 m _ ls [.long (lI ((tkU F n P t) (t + n))), .long (lI (F t)), .int (nI t), .ref lf]) (by rw [nI_clamp (by omega)]) ?_
        refine W.eq (congrArg (fun z => F0 m _ ls (.long z :: _)) (show lI ((tkU F n P t) (t + n)) = lI (F (t + n)) from congrArg lI (tkU_n (by omega)))) ?_
        refine lv_lsub hx hb dX0_takeAwayUpperHalf_26 ?_
        refine W.eq (congrArg (fun z => F0 m _ ls (.long z :: _)) (show lI (F t) - lI (F (t + n)) = lI ((F t) - (F (t + n))) from lI_sub (F t) (F (t + n)))) ?_
        refine lv_iload_n hx hb dX0_takeAwayUpperHalf_27 rfl (lv_at hl 1 rfl) ?_
        have hPc := hP.sub (ws' := []) [] rfl
        have hDc := hD.sub (ws' := []) [] (by decide) rfl
        have hKc := hK.sub (tys' := []) [] rfl
        have hFc := va_free (wc := []) hD hS hA [] rfl
        refine va_calll (va_runS (As := [.long (lI ((F t) - (F (t + n)))), .int (nI P)]) (rest := [.int (nI t), .ref lf]) ⟨hx, hb, hml, hown, hts⟩ (c_X1_remainder l dC dI ((F t) - (F (t + n))) P H.size (by omega) (by omega) (by omega) (by omega)) (va_cwS 2 hts gX0_takeAwayUpperHalf_X1_remainder rfl rfl rfl (by decide +kernel) ⟨Nat.le_of_ble_eq_true rfl, Nat.le_of_ble_eq_true rfl⟩) ⟨fun a U g mk q => by obtain ⟨q0, q1, qP, qK, qD⟩ := q; exact ⟨q0, q1, qP, va_K.moved (u := U) (U := U.calling g mk a) (Vm.Alike.refl U.vm) qK, qD⟩, fun U hU hW => ⟨rfl, by rw [hU], by rw [hU]; exact hPc, va_K.moved hW.alike hKc, hDc.weaken (fun _ _ _ _ => trivial)⟩⟩ rfl rfl hl.1 rfl (lv_room (Nat.le_of_ble_eq_true rfl)) dX0_takeAwayUpperHalf_28 ⟨Nat.le_of_ble_eq_true rfl, Nat.le_of_ble_eq_true rfl⟩) hS (fun q _ h => hFc q h) hFc (fun r9 u9 t9 H1 locs ht hvm hw hB hz1 hk1 hS => ?_)
        obtain ⟨hP1, hD1⟩ := hB
        rw [ht] at hP1
        try dsimp only at hw
        obtain ⟨hP, hD⟩ := va_join (wr := [(hh, .inr (0, [.ref lf, .ref rt, .ref rp])), (lf, .inl (cJ, 512, .inr (.inl (fun j => lI ((tkU F n P t) j)))))]) (w1 := []) hP hD [] [0, 1] rfl rfl (by decide) (by decide) hk1 hFc hP1 hD1
        generalize H1 = H at hP hS ⊢
        have hP : va_P (dC, dI) vwCl [(hh, .inr (0, [.ref lf, .ref rt, .ref rp])), (lf, .inl (cJ, 512, .inr (.inl (fun j => lI ((tkU F n P t) j)))))] H := hP
        have hD : va_D A [(hh, .inr (0, [.ref lf, .ref rt, .ref rp])), (lf, .inl (cJ, 512, .inr (.inl (fun j => lI ((tkU F n P t) j)))))] := hD
        clear hPc hDc hKc hFc hP1 hD1 hk1 hz1 hvm ht
        subst hw
        refine va_last hx hb hK hP hD hS 1 0 rfl rfl (vp_in_nI (by omega) (by omega)) dX0_takeAwayUpperHalf_31 (fun H locs hP hD hS => ?_)
        rw [nI_clamp (show t < 2 ^ 31 by omega)] at hP hD
        rw [upI_l] at hP hD
        have hP : va_P (dC, dI) vwCl [(hh, .inr (0, [.ref lf, .ref rt, .ref rp])), (lf, .inl (cJ, 512, .inr (.inl (fun j => lI ((upI (tkU F n P t) t (((F t) - (F (t + n))) % ((P : Nat) : Int))) j)))))] H := hP
        have hD : va_D A [(hh, .inr (0, [.ref lf, .ref rt, .ref rp])), (lf, .inl (cJ, 512, .inr (.inl (fun j => lI ((upI (tkU F n P t) t (((F t) - (F (t + n))) % ((P : Nat) : Int))) j)))))] := hD
        rw [show upI (tkU F n P t) t (((F t) - (F (t + n))) % ((P : Nat) : Int)) = tkU F n P (t + 1) from tkU_s] at hP hD
        have hP : va_P (dC, dI) vwCl [(hh, .inr (0, [.ref lf, .ref rt, .ref rp])), (lf, .inl (cJ, 512, .inr (.inl (fun j => lI ((tkU F n P (t + 1)) j)))))] H := hP
        have hD : va_D A [(hh, .inr (0, [.ref lf, .ref rt, .ref rp])), (lf, .inl (cJ, 512, .inr (.inl (fun j => lI ((tkU F n P (t + 1)) j)))))] := hD
        refine lv_iinc (v := nI (t + 1)) (lv' := [(3, .int (nI (t + 1))), (2, .int (nI P)), (1, .int (nI n)), (0, .ref hh)]) hx hb dX0_takeAwayUpperHalf_32 hl (k := 0) rfl (nI_add t 1) (by decide) rfl (fun ls hl => ?_)
        refine lv_goto (tgt := 2) hx hb dX0_takeAwayUpperHalf_35 (by decide) ?_
        exact ih_2  (t + 1) (by omega) (by omega) _ _ _ (hP.sub [0, 1] rfl) (hD.sub [0, 1] (by decide) rfl) hS (lv_sub hl [0, 1, 2, 3] rfl)
  exact key_2 (n + 1) 0 (by omega) (by omega) _ _ _ (hP.sub [0, 1] rfl) (hD.sub [0, 1] (by decide) rfl) hS (lv_sub hl [0, 3, 2, 1] rfl)
end
section
section ZA
variable {p : Program} {l : Launch} {e : Env} {R : Room} {s : State} {m : MethodId} {args : Array Value} {below : List Frame} {meth : Method} {c : Code} {H : Heap} {locs : List Loc} {cells slots : Nat} {Q : State → Prop}
variable {cc : ByteArray} {pc : Nat} {ls : Array Slot} {rest : List Value} {D : va_G} {cl : List vw_C} {A : Nat → Prop} {a : Nat} {tys : List (ClassId × FieldType)} {ws : va_W} {H0 : Heap}
theorem zz_aldA (hexec : p.tables.exec = Jvm.exec) (hb : c.code = cc) (hK : va_K D cl tys s) (hP : va_P D cl ws H) (q0 t0 : Nat) {cA : ClassId} {ty : FieldType} {n : Nat} {f : Nat → Option Nat} (ha : ws[q0]? = some (a, .inl (cA, n, .inr (.inr (.inr (.inr f)))))) (ht : tys[t0]? = some (cA, .array ty)) {i : Int32} (hin : vp_in i n) (hdg : decode cc pc = .ok (.aaload, 1))
    (kk : W p l e R s m args below meth c H locs cells slots Q (F0 m (pc + 1) ls (va_rf (f i.toNatClampNeg) :: rest))) : W p l e R s m args below meth c H locs cells slots Q (F0 m pc ls (.int i :: .ref a :: rest)) := by
  have hlt : i.toNatClampNeg < n := Nat.not_le.mp fun q => hin (Or.inr q)
  exact W.aald (v := va_rf (f i.toNatClampNeg)) (ty := .array ty) hexec hb (hP q0 _ ha) ((hK.2 t0 _ ht).1 n (fun j => va_rf (f j))) rfl (fun q => by cases q) (by show ¬ (i < 0 ∨ (arrV _ _ _).slots.size ≤ _); rw [arrV_size]; exact hin) (by show (arrV _ _ _).slots[_]? = _; rw [arrV_read _ _ hlt]) rfl rfl hdg kk
end ZA
theorem lI_shr32 {z : Int} (h1 : -2 ^ 63 ≤ z) (h2 : z < 2 ^ 63) : lI z >>> ((nI 32).toInt64 &&& 63) = lI (z / 2 ^ 32) := by
  rw [← lI_of (lI z >>> ((nI 32).toInt64 &&& 63)), Jvm.Kit.i64_shr (lI z) ((nI 32).toInt64 &&& 63) (k := 32) (by decide +kernel), lI_toInt h1 h2]
def frW (k P : Nat) : Int := 3 ^ ((P - 1) / 2 ^ k) % (P : Int)
/-- what foldRoundModulo leaves in left; G: what lay in rootPowers before -/
def frm (F1 F2 G : Nat → Int) (k P : Nat) : Nat → Int :=
  mlW (bwd (mlF (fwd F1 (rpw G (frW k P) P (2 ^ k / 2)) k P k) (fwd F2 (rpw G (frW k P) P (2 ^ k / 2)) k P k) P (2 ^ k)) (rpw (rpw G (frW k P) P (2 ^ k / 2)) (frW k P ^ (P - 2) % (P : Int)) P (2 ^ k / 2)) k P k) ((2 ^ k : Int) ^ (P - 2) % (P : Int)) P (2 ^ k)
theorem mlW_rng {F : Nat → Int} {w P : Int} {n N : Nat} (hP : 0 < P) (hF : inR F N P) : inR (mlW F w P n) N P := fun j hj => by
  unfold mlW
  split
  · exact emod_rng _ hP
  · exact hF j hj
theorem frm_rng {F1 F2 G : Nat → Int} {k P N : Nat} (hP : 0 < (P : Int)) (h1 : inR F1 N P) : inR (frm F1 F2 G k P) N P := mlW_rng hP (bwd_rng hP (mlF_rng hP (fwd_rng hP h1 _)) _)
/-- the part below the first two primes, the times of their product -/
def mft (a b : Int) : Int := a + 998244353 * (((b - a) * 47450712) % 167772161)
def tft (r z : Int) : Int := if 234881024 < ((r - z).tmod 469762049 * 115990628) % 469762049 then ((r - z).tmod 469762049 * 115990628) % 469762049 - 469762049 else ((r - z).tmod 469762049 * 115990628) % 469762049
def lowZ (a b r : Int) : Int := mft a b + 167477612308856833 * tft r (mft a b)
def highZ (a b r : Int) : Int := (38993920 * tft r (mft a b) + (mft a b + 1166016513 * tft r (mft a b)) / 2 ^ 32) / 2 ^ 32
theorem i32b (x : Int32) : -2 ^ 31 ≤ x.toInt ∧ x.toInt < 2 ^ 31 := ⟨Int32.le_toInt x, Int32.toInt_lt x⟩
theorem mft_b (a b : Int32) : -2 ^ 31 ≤ mft a.toInt b.toInt ∧ mft a.toInt b.toInt < 2 ^ 58 := by
  have h1 := i32b a
  have h2 := emod_rng ((b.toInt - a.toInt) * 47450712) (show (0 : Int) < 167772161 by omega)
  unfold mft
  omega
theorem tft_b (r z : Int) : -469762049 ≤ tft r z ∧ tft r z < 469762049 := by
  have h2 := emod_rng ((r - z).tmod 469762049 * 115990628) (show (0 : Int) < 469762049 by omega)
  unfold tft
  split <;> omega
def ctI (f : Nat → Int32) (R0 R1 R2 : Nat → Int32) (t : Nat) : Nat → Int32 := fun j => if j < t then iI (lowZ (R0 j).toInt (R1 j).toInt (R2 j).toInt) else f j
theorem ctI_0 (f R0 R1 R2 : Nat → Int32) : ctI f R0 R1 R2 0 = f := by
  funext j
  unfold ctI
  rw [if_neg (by omega)]
theorem ctI_s {f R0 R1 R2 : Nat → Int32} {t : Nat} : upd (ctI f R0 R1 R2 t) t (iI (lowZ (R0 t).toInt (R1 t).toInt (R2 t).toInt)) = ctI f R0 R1 R2 (t + 1) := by
  funext j
  unfold upd ctI
  by_cases h : j = t
  · subst h
    simp
  · by_cases h2 : j < t
    · simp [h, h2, Nat.lt_succ_of_lt h2]
    · simp [h, h2, show ¬ j < t + 1 by omega]
abbrev q_X0_foldRoundModulo (dC : Nat → ClassId) (dI : Nat → Nat → Nat) (cJ : ClassId) (hh lf rt rp : Nat) (F1 F2 G : Nat → Int) (k P : Nat) (A : Nat → Prop) : Array Value → State → Outcome → State → Prop := va_Qv (fun (u : (Nat → Int) × (Nat → Int)) => True) (fun u t => va_P (dC, dI) vwCl [(hh, .inr (0, [.ref lf, .ref rt, .ref rp])), (lf, .inl (cJ, 512, .inr (.inl (fun j => lI ((frm F1 F2 G k P) j))))), (rt, .inl (cJ, 512, .inr (.inl (fun j => lI (u.1 j))))), (rp, .inl (cJ, 256, .inr (.inl (fun j => lI (u.2 j)))))] t.heap ∧ va_D A [(hh, .inr (0, [.ref lf, .ref rt, .ref rp])), (lf, .inl (cJ, 512, .inr (.inl (fun j => lI ((frm F1 F2 G k P) j))))), (rt, .inl (cJ, 512, .inr (.inl (fun j => lI (u.1 j))))), (rp, .inl (cJ, 256, .inr (.inl (fun j => lI (u.2 j)))))]) A
set_option maxHeartbeats 4000000 in
set_option maxRecDepth 100000 in
theorem c_X0_foldRoundModulo (l : Launch) (dC : Nat → ClassId) (dI : Nat → Nat → Nat) (cJ : ClassId) (hh lf rt rp : Nat) (F1 F2 G : Nat → Int) (k P : Nat) (sz : Nat) (zF1 : inR F1 (2 ^ k) P) (zF2 : inR F2 (2 ^ k) P) (zk : k ≤ 9) (zk1 : 1 ≤ k) (zP : 512 < P) (hp2 : P ≤ 2 ^ 30) : Met l yX0_foldRoundModulo wsX0_foldRoundModulo ({ frames := 3, cells := 0, slots := 0, locals := 77 }) (va_Pc [.ref hh, .int (nI k), .int (nI P)] (fun U => U.heap.size = sz ∧ va_P (dC, dI) vwCl [(hh, .inr (0, [.ref lf, .ref rt, .ref rp])), (lf, .inl (cJ, 512, .inr (.inl (fun j => lI (F1 j))))), (rt, .inl (cJ, 512, .inr (.inl (fun j => lI (F2 j))))), (rp, .inl (cJ, 256, .inr (.inl (fun j => lI (G j)))))] U.heap ∧ va_K (dC, dI) vwCl [(cJ, .long)] U ∧ va_D (fun _ => True) [(hh, .inr (0, [.ref lf, .ref rt, .ref rp])), (lf, .inl (cJ, 512, .inr (.inl (fun j => lI (F1 j))))), (rt, .inl (cJ, 512, .inr (.inl (fun j => lI (F2 j))))), (rp, .inl (cJ, 256, .inr (.inl (fun j => lI (G j)))))])) (q_X0_foldRoundModulo dC dI cJ hh lf rt rp F1 F2 G k P (va_A [(hh, .inr (0, [.ref lf, .ref rt, .ref rp])), (lf, .inl (cJ, 512, .inr (.inl (fun j => lI (F1 j))))), (rt, .inl (cJ, 512, .inr (.inl (fun j => lI (F2 j))))), (rp, .inl (cJ, 256, .inr (.inl (fun j => lI (G j)))))] sz)) 0 0 (va_A [(hh, .inr (0, [.ref lf, .ref rt, .ref rp])), (lf, .inl (cJ, 512, .inr (.inl (fun j => lI (F1 j))))), (rt, .inl (cJ, 512, .inr (.inl (fun j => lI (F2 j))))), (rp, .inl (cJ, 256, .inr (.inl (fun j => lI (G j)))))] sz) := by
  refine Met.ofW (cc := cX0_foldRoundModulo) (maxL := 7) (ret := none) (by decide) rfl ?_
  intro p e s m args below meth c s₁ B hml hv
  obtain ⟨rfl, hsz, hP, hK, hD0⟩ := hv
  have hx := B.exec
  have hb := B.bytes
  have hr := B.returns
  have hts := atoms_spec (ws := wsX0_foldRoundModulo) B.pre
  have hown : s.vm.findClass RX0 = some m.cls := findClass_of_methodNamed B.named
  have hlocks := B.notSynchronized
  subst hsz
  have hD := hD0.self (sz := s.heap.size)
  generalize hAe : va_A [(hh, .inr (0, [.ref lf, .ref rt, .ref rp])), (lf, .inl (cJ, 512, .inr (.inl (fun j => lI (F1 j))))), (rt, .inl (cJ, 512, .inr (.inl (fun j => lI (F2 j))))), (rp, .inl (cJ, 256, .inr (.inl (fun j => lI (G j)))))] s.heap.size = A at hD ⊢
  have hA : ∀ q : Nat, s.heap.size ≤ q → A q := fun q h => by rw [← hAe]; exact Or.inr h
  have hS : va_S A s.heap s.heap [] := va_S.rf
  have hP : va_P (dC, dI) vwCl [(hh, .inr (0, [.ref lf, .ref rt, .ref rp])), (lf, .inl (cJ, 512, .inr (.inl (fun j => lI (F1 j))))), (rt, .inl (cJ, 512, .inr (.inl (fun j => lI (F2 j))))), (rp, .inl (cJ, 256, .inr (.inl (fun j => lI (G j)))))] s.heap := hP
  have hl := lv_entry (([.ref hh, .int (nI k), .int (nI P)] : List Value)) (n := 7) (Nat.le_of_ble_eq_true rfl)
  rw [lg_entry_eq]
  generalize (lg_sl (([.ref hh, .int (nI k), .int (nI P)] : List Value)) ++ List.replicate (7 - (lg_sl (([.ref hh, .int (nI k), .int (nI P)] : List Value))).length) Slot.unset).toArray = ls at hl ⊢
  have hl : lv_has ls 7 [(0, .ref hh), (1, .int (nI k)), (2, .int (nI P))] := hl
  obtain ⟨H, hHe⟩ : ∃ H : Heap, H = s.heap := ⟨_, rfl⟩
  rw [← hHe] at hP
  have hS : va_S A s.heap H [] := by rw [hHe]; exact hS
  obtain ⟨locs, hlo⟩ : ∃ L : List Loc, L = [] := ⟨_, rfl⟩
  rw [← hlo] at hS ⊢
  rw [← hHe]
  have hpk := pw9 zk
  have hpk2 : 2 ≤ 2 ^ k := by obtain ⟨k, rfl⟩ : ∃ j, k = j + 1 := ⟨k - 1, by omega⟩; have := pw9 (show k ≤ 9 by omega); rw [Nat.pow_succ]; omega
  have hw := emod_rng (3 ^ ((P - 1) / 2 ^ k)) (show (0 : Int) < P by omega)
  have hwf : 3 ^ ((P - 1) / 2 ^ k) % (P : Int) = frW k P := rfl
  rw [hwf] at hw
  have hw2 := emod_rng (frW k P ^ (P - 2)) (show (0 : Int) < P by omega)
  refine lv_iconst (v := nI 1) hx hb dX0_foldRoundModulo_0 (by decide) ?_
  refine lv_iload_n hx hb dX0_foldRoundModulo_1 rfl (lv_at hl 1 rfl) ?_
  refine lv_ishl hx hb dX0_foldRoundModulo_2 ?_
  refine W.eq (congrArg (fun z => F0 m _ ls (.int z :: _)) (show (nI 1) <<< ((nI k) &&& 31) = nI (2 ^ k) from zz_shl (by omega))) ?_
  refine lv_istore_n (lv' := [(3, .int (nI (2 ^ k))), (0, .ref hh), (1, .int (nI k)), (2, .int (nI P))]) hx hb dX0_foldRoundModulo_3 rfl hl (by decide) rfl (fun ls hl => ?_)
  refine lv_iload_n hx hb dX0_foldRoundModulo_4 rfl (lv_at hl 2 rfl) ?_
  refine lv_iload_n hx hb dX0_foldRoundModulo_5 rfl (lv_at hl 3 rfl) ?_
  have hPc := hP.sub (ws' := []) [] rfl
  have hDc := hD.sub (ws' := []) [] (by decide) rfl
  have hKc := hK.sub (tys' := []) [] rfl
  have hFc := va_free (wc := []) hD hS hA [] rfl
  refine va_calll (va_runS (As := [.int (nI k), .int (nI P)]) (rest := []) ⟨hx, hb, hml, hown, hts⟩ (c_X1_rootOfOne l dC dI k P H.size (by omega) (by omega) (by omega)) (va_cwS 2 hts gX0_foldRoundModulo_X1_rootOfOne rfl rfl rfl (by decide +kernel) ⟨Nat.le_of_ble_eq_true rfl, Nat.le_of_ble_eq_true rfl⟩) ⟨fun a U g mk q => by obtain ⟨q0, q1, qP, qK, qD⟩ := q; exact ⟨q0, q1, qP, va_K.moved (u := U) (U := U.calling g mk a) (Vm.Alike.refl U.vm) qK, qD⟩, fun U hU hW => ⟨rfl, by rw [hU], by rw [hU]; exact hPc, va_K.moved hW.alike hKc, hDc.weaken (fun _ _ _ _ => trivial)⟩⟩ rfl rfl hl.1 rfl (lv_room (Nat.le_of_ble_eq_true rfl)) dX0_foldRoundModulo_6 ⟨Nat.le_of_ble_eq_true rfl, Nat.le_of_ble_eq_true rfl⟩) hS (fun q _ h => hFc q h) hFc (fun r9 u9 t9 H1 locs ht hvm hw hB hz1 hk1 hS => ?_)
  obtain ⟨hP1, hD1⟩ := hB
  rw [ht] at hP1
  try dsimp only at hw
  obtain ⟨hP, hD⟩ := va_join (wr := [(hh, .inr (0, [.ref lf, .ref rt, .ref rp])), (lf, .inl (cJ, 512, .inr (.inl (fun j => lI (F1 j))))), (rt, .inl (cJ, 512, .inr (.inl (fun j => lI (F2 j))))), (rp, .inl (cJ, 256, .inr (.inl (fun j => lI (G j)))))]) (w1 := []) hP hD [] [0, 1, 2, 3] rfl rfl (by decide) (by decide) hk1 hFc hP1 hD1
  generalize H1 = H at hP hS ⊢
  have hP : va_P (dC, dI) vwCl [(hh, .inr (0, [.ref lf, .ref rt, .ref rp])), (lf, .inl (cJ, 512, .inr (.inl (fun j => lI (F1 j))))), (rt, .inl (cJ, 512, .inr (.inl (fun j => lI (F2 j))))), (rp, .inl (cJ, 256, .inr (.inl (fun j => lI (G j)))))] H := hP
  have hD : va_D A [(hh, .inr (0, [.ref lf, .ref rt, .ref rp])), (lf, .inl (cJ, 512, .inr (.inl (fun j => lI (F1 j))))), (rt, .inl (cJ, 512, .inr (.inl (fun j => lI (F2 j))))), (rp, .inl (cJ, 256, .inr (.inl (fun j => lI (G j)))))] := hD
  clear hPc hDc hKc hFc hP1 hD1 hk1 hz1 hvm ht
  subst hw
  refine W.eq (congrArg (fun z => F0 m _ ls (.long z :: _)) (show lI (3 ^ ((P - 1) / 2 ^ k) % ((P : Nat) : Int)) = lI (frW k P) from rfl)) ?_
  refine lv_lstore (lv' := [(4, .long (lI (frW k P))), (3, .int (nI (2 ^ k))), (0, .ref hh), (1, .int (nI k)), (2, .int (nI P))]) hx hb dX0_foldRoundModulo_9 hl (by decide) rfl (fun ls hl => ?_)
  refine lv_aload_n hx hb dX0_foldRoundModulo_11 rfl (lv_at hl 2 rfl) ?_
  refine lv_lload hx hb dX0_foldRoundModulo_12 (lv_at hl 0 rfl) ?_
  refine lv_iload_n hx hb dX0_foldRoundModulo_14 rfl (lv_at hl 1 rfl) ?_
  refine lv_iconst (v := nI 2) hx hb dX0_foldRoundModulo_15 (by decide) ?_
  refine lv_idiv hx hb dX0_foldRoundModulo_16 (nI_ne0 (by omega) (by omega)) ?_
  refine W.eq (congrArg (fun z => F0 m _ ls (.int z :: _)) (show nI (2 ^ k) / nI 2 = nI ((2 ^ k) / 2) from pk_div (by omega) (by omega) (by omega))) ?_
  refine lv_iload_n hx hb dX0_foldRoundModulo_17 rfl (lv_at hl 4 rfl) ?_
  have hPc := hP.sub (ws' := [(hh, .inr (0, [.ref lf, .ref rt, .ref rp])), (rp, .inl (cJ, 256, .inr (.inl (fun j => lI (G j)))))]) [0, 3] rfl
  have hDc := hD.sub (ws' := [(hh, .inr (0, [.ref lf, .ref rt, .ref rp])), (rp, .inl (cJ, 256, .inr (.inl (fun j => lI (G j)))))]) [0, 3] (by decide) rfl
  have hKc := hK.sub (tys' := [(cJ, .long)]) [0] rfl
  have hFc := va_free (wc := [(hh, .inr (0, [.ref lf, .ref rt, .ref rp])), (rp, .inl (cJ, 256, .inr (.inl (fun j => lI (G j)))))]) hD hS hA [0, 3] rfl
  refine va_callv (va_runV (As := [.long (lI (frW k P)), .int (nI ((2 ^ k) / 2)), .int (nI P)]) (rest := []) ⟨hx, hb, hml, hown, hts⟩ (c_X0_listRootPowers l dC dI cJ hh lf rt rp G (frW k P) ((2 ^ k) / 2) P H.size (by omega) (by omega) (by omega) (by omega) (by omega) (by omega)) (cwV 3 hts gX0_foldRoundModulo_X0_listRootPowers rfl rfl rfl (by decide +kernel) ⟨Nat.le_of_ble_eq_true rfl, Nat.le_of_ble_eq_true rfl⟩) ⟨fun a U g mk q => by obtain ⟨q0, q1, qP, qK, qD⟩ := q; exact ⟨q0, q1, qP, va_K.moved (u := U) (U := U.calling g mk a) (Vm.Alike.refl U.vm) qK, qD⟩, va_recv hKc hPc (ci := 0) (q0 := 0) rfl rfl, fun U hU hW => ⟨rfl, by rw [hU], by rw [hU]; exact hPc, va_K.moved hW.alike hKc, hDc.weaken (fun _ _ _ _ => trivial)⟩⟩ rfl rfl hl.1 rfl (lv_room (Nat.le_of_ble_eq_true rfl)) dX0_foldRoundModulo_18 ⟨Nat.le_of_ble_eq_true rfl, Nat.le_of_ble_eq_true rfl⟩) hS (fun q _ h => hFc q h) hFc (fun u9 t9 H1 locs ht hvm hw hB hz1 hk1 hS => ?_)
  obtain ⟨hP1, hD1⟩ := hB
  rw [ht] at hP1
  try dsimp only at hw
  obtain ⟨hP, hD⟩ := va_join (wr := [(lf, .inl (cJ, 512, .inr (.inl (fun j => lI (F1 j))))), (rt, .inl (cJ, 512, .inr (.inl (fun j => lI (F2 j)))))]) (w1 := [(hh, .inr (0, [.ref lf, .ref rt, .ref rp])), (rp, .inl (cJ, 256, .inr (.inl (fun j => lI ((rpw G (frW k P) P ((2 ^ k) / 2)) j)))))]) hP hD [0, 3] [1, 2] rfl rfl (by decide) (by decide) hk1 hFc hP1 hD1
  generalize H1 = H at hP hS ⊢
  have hP : va_P (dC, dI) vwCl [(lf, .inl (cJ, 512, .inr (.inl (fun j => lI (F1 j))))), (rt, .inl (cJ, 512, .inr (.inl (fun j => lI (F2 j))))), (hh, .inr (0, [.ref lf, .ref rt, .ref rp])), (rp, .inl (cJ, 256, .inr (.inl (fun j => lI ((rpw G (frW k P) P ((2 ^ k) / 2)) j)))))] H := hP
  have hD : va_D A [(lf, .inl (cJ, 512, .inr (.inl (fun j => lI (F1 j))))), (rt, .inl (cJ, 512, .inr (.inl (fun j => lI (F2 j))))), (hh, .inr (0, [.ref lf, .ref rt, .ref rp])), (rp, .inl (cJ, 256, .inr (.inl (fun j => lI ((rpw G (frW k P) P ((2 ^ k) / 2)) j)))))] := hD
  clear hPc hDc hKc hFc hP1 hD1 hk1 hz1 hvm ht
  clear hw
  refine lv_aload_n hx hb dX0_foldRoundModulo_21 rfl (lv_at hl 2 rfl) ?_
  refine lv_aload_n hx hb dX0_foldRoundModulo_22 rfl (lv_at hl 2 rfl) ?_
  refine va_get (D := (dC, dI)) (ci := 0) (v := .ref lf) (C := RX0) (T := TX0) (N := 3) hx hb hts (by decide +kernel) hown hK hP 2 rfl rfl 0 (by decide) (hts (.fieldLink RX0 9 "ThreePrimes$Folder" "left" "[J") (by decide +kernel)) (fun _ h9 => h9) rfl dX0_foldRoundModulo_23 ?_
  refine lv_iload_n hx hb dX0_foldRoundModulo_26 rfl (lv_at hl 3 rfl) ?_
  refine lv_iload_n hx hb dX0_foldRoundModulo_27 rfl (lv_at hl 4 rfl) ?_
  have hPc := hP.sub (ws' := [(hh, .inr (0, [.ref lf, .ref rt, .ref rp])), (lf, .inl (cJ, 512, .inr (.inl (fun j => lI (F1 j))))), (rp, .inl (cJ, 256, .inr (.inl (fun j => lI ((rpw G (frW k P) P ((2 ^ k) / 2)) j)))))]) [2, 0, 3] rfl
  have hDc := hD.sub (ws' := [(hh, .inr (0, [.ref lf, .ref rt, .ref rp])), (lf, .inl (cJ, 512, .inr (.inl (fun j => lI (F1 j))))), (rp, .inl (cJ, 256, .inr (.inl (fun j => lI ((rpw G (frW k P) P ((2 ^ k) / 2)) j)))))]) [2, 0, 3] (by decide) rfl
  have hKc := hK.sub (tys' := [(cJ, .long)]) [0] rfl
  have hFc := va_free (wc := [(hh, .inr (0, [.ref lf, .ref rt, .ref rp])), (lf, .inl (cJ, 512, .inr (.inl (fun j => lI (F1 j))))), (rp, .inl (cJ, 256, .inr (.inl (fun j => lI ((rpw G (frW k P) P ((2 ^ k) / 2)) j)))))]) hD hS hA [2, 0, 3] rfl
  refine va_callv (va_runV (As := [.ref lf, .int (nI k), .int (nI P)]) (rest := []) ⟨hx, hb, hml, hown, hts⟩ (c_X0_turnIntoValues l dC dI cJ hh lf rt rp lf F1 (rpw G (frW k P) P ((2 ^ k) / 2)) k P H.size zF1 (rpw_rng (by omega) (Nat.le_refl _)) zk (by omega) (by omega)) (cwV 3 hts gX0_foldRoundModulo_X0_turnIntoValues rfl rfl rfl (by decide +kernel) ⟨Nat.le_of_ble_eq_true rfl, Nat.le_of_ble_eq_true rfl⟩) ⟨fun a U g mk q => by obtain ⟨q0, q1, qP, qK, qD⟩ := q; exact ⟨q0, q1, qP, va_K.moved (u := U) (U := U.calling g mk a) (Vm.Alike.refl U.vm) qK, qD⟩, va_recv hKc hPc (ci := 0) (q0 := 0) rfl rfl, fun U hU hW => ⟨rfl, by rw [hU], by rw [hU]; exact hPc, va_K.moved hW.alike hKc, hDc.weaken (fun _ _ _ _ => trivial)⟩⟩ rfl rfl hl.1 rfl (lv_room (Nat.le_of_ble_eq_true rfl)) dX0_foldRoundModulo_28 ⟨Nat.le_of_ble_eq_true rfl, Nat.le_of_ble_eq_true rfl⟩) hS (fun q _ h => hFc q h) hFc (fun u9 t9 H1 locs ht hvm hw hB hz1 hk1 hS => ?_)
  obtain ⟨hP1, hD1⟩ := hB
  rw [ht] at hP1
  try dsimp only at hw
  obtain ⟨hP, hD⟩ := va_join (wr := [(rt, .inl (cJ, 512, .inr (.inl (fun j => lI (F2 j)))))]) (w1 := [(hh, .inr (0, [.ref lf, .ref rt, .ref rp])), (lf, .inl (cJ, 512, .inr (.inl (fun j => lI ((fwd F1 (rpw G (frW k P) P ((2 ^ k) / 2)) k P k) j))))), (rp, .inl (cJ, 256, .inr (.inl (fun j => lI ((rpw G (frW k P) P ((2 ^ k) / 2)) j)))))]) hP hD [2, 0, 3] [1] rfl rfl (by decide) (by decide) hk1 hFc hP1 hD1
  generalize H1 = H at hP hS ⊢
  have hP : va_P (dC, dI) vwCl [(rt, .inl (cJ, 512, .inr (.inl (fun j => lI (F2 j))))), (hh, .inr (0, [.ref lf, .ref rt, .ref rp])), (lf, .inl (cJ, 512, .inr (.inl (fun j => lI ((fwd F1 (rpw G (frW k P) P ((2 ^ k) / 2)) k P k) j))))), (rp, .inl (cJ, 256, .inr (.inl (fun j => lI ((rpw G (frW k P) P ((2 ^ k) / 2)) j)))))] H := hP
  have hD : va_D A [(rt, .inl (cJ, 512, .inr (.inl (fun j => lI (F2 j))))), (hh, .inr (0, [.ref lf, .ref rt, .ref rp])), (lf, .inl (cJ, 512, .inr (.inl (fun j => lI ((fwd F1 (rpw G (frW k P) P ((2 ^ k) / 2)) k P k) j))))), (rp, .inl (cJ, 256, .inr (.inl (fun j => lI ((rpw G (frW k P) P ((2 ^ k) / 2)) j)))))] := hD
  clear hPc hDc hKc hFc hP1 hD1 hk1 hz1 hvm ht
  clear hw
  refine lv_aload_n hx hb dX0_foldRoundModulo_31 rfl (lv_at hl 2 rfl) ?_
  refine lv_aload_n hx hb dX0_foldRoundModulo_32 rfl (lv_at hl 2 rfl) ?_
  refine va_get (D := (dC, dI)) (ci := 0) (v := .ref rt) (C := RX0) (T := TX0) (N := 3) hx hb hts (by decide +kernel) hown hK hP 1 rfl rfl 1 (by decide) (hts (.fieldLink RX0 15 "ThreePrimes$Folder" "right" "[J") (by decide +kernel)) (fun _ h9 => h9) rfl dX0_foldRoundModulo_33 ?_
  refine lv_iload_n hx hb dX0_foldRoundModulo_36 rfl (lv_at hl 3 rfl) ?_
  refine lv_iload_n hx hb dX0_foldRoundModulo_37 rfl (lv_at hl 4 rfl) ?_
  have hPc := hP.sub (ws' := [(hh, .inr (0, [.ref lf, .ref rt, .ref rp])), (rt, .inl (cJ, 512, .inr (.inl (fun j => lI (F2 j))))), (rp, .inl (cJ, 256, .inr (.inl (fun j => lI ((rpw G (frW k P) P ((2 ^ k) / 2)) j)))))]) [1, 0, 3] rfl
  have hDc := hD.sub (ws' := [(hh, .inr (0, [.ref lf, .ref rt, .ref rp])), (rt, .inl (cJ, 512, .inr (.inl (fun j => lI (F2 j))))), (rp, .inl (cJ, 256, .inr (.inl (fun j => lI ((rpw G (frW k P) P ((2 ^ k) / 2)) j)))))]) [1, 0, 3] (by decide) rfl
  have hKc := hK.sub (tys' := [(cJ, .long)]) [0] rfl
  have hFc := va_free (wc := [(hh, .inr (0, [.ref lf, .ref rt, .ref rp])), (rt, .inl (cJ, 512, .inr (.inl (fun j => lI (F2 j))))), (rp, .inl (cJ, 256, .inr (.inl (fun j => lI ((rpw G (frW k P) P ((2 ^ k) / 2)) j)))))]) hD hS hA [1, 0, 3] rfl
  refine va_callv (va_runV (As := [.ref rt, .int (nI k), .int (nI P)]) (rest := []) ⟨hx, hb, hml, hown, hts⟩ (c_X0_turnIntoValues l dC dI cJ hh lf rt rp rt F2 (rpw G (frW k P) P ((2 ^ k) / 2)) k P H.size zF2 (rpw_rng (by omega) (Nat.le_refl _)) zk (by omega) (by omega)) (cwV 3 hts gX0_foldRoundModulo_X0_turnIntoValues rfl rfl rfl (by decide +kernel) ⟨Nat.le_of_ble_eq_true rfl, Nat.le_of_ble_eq_true rfl⟩) ⟨fun a U g mk q => by obtain ⟨q0, q1, qP, qK, qD⟩ := q; exact ⟨q0, q1, qP, va_K.moved (u := U) (U := U.calling g mk a) (Vm.Alike.refl U.vm) qK, qD⟩, va_recv hKc hPc (ci := 0) (q0 := 0) rfl rfl, fun U hU hW => ⟨rfl, by rw [hU], by rw [hU]; exact hPc, va_K.moved hW.alike hKc, hDc.weaken (fun _ _ _ _ => trivial)⟩⟩ rfl rfl hl.1 rfl (lv_room (Nat.le_of_ble_eq_true rfl)) dX0_foldRoundModulo_38 ⟨Nat.le_of_ble_eq_true rfl, Nat.le_of_ble_eq_true rfl⟩) hS (fun q _ h => hFc q h) hFc (fun u9 t9 H1 locs ht hvm hw hB hz1 hk1 hS => ?_)
  obtain ⟨hP1, hD1⟩ := hB
  rw [ht] at hP1
  try dsimp only at hw
  obtain ⟨hP, hD⟩ := va_join (wr := [(lf, .inl (cJ, 512, .inr (.inl (fun j => lI ((fwd F1 (rpw G (frW k P) P ((2 ^ k) / 2)) k P k) j)))))]) (w1 := [(hh, .inr (0, [.ref lf, .ref rt, .ref rp])), (rt, .inl (cJ, 512, .inr (.inl (fun j => lI ((fwd F2 (rpw G (frW k P) P ((2 ^ k) / 2)) k P k) j))))), (rp, .inl (cJ, 256, .inr (.inl (fun j => lI ((rpw G (frW k P) P ((2 ^ k) / 2)) j)))))]) hP hD [1, 0, 3] [2] rfl rfl (by decide) (by decide) hk1 hFc hP1 hD1
  generalize H1 = H at hP hS ⊢
  have hP : va_P (dC, dI) vwCl [(lf, .inl (cJ, 512, .inr (.inl (fun j => lI ((fwd F1 (rpw G (frW k P) P ((2 ^ k) / 2)) k P k) j))))), (hh, .inr (0, [.ref lf, .ref rt, .ref rp])), (rt, .inl (cJ, 512, .inr (.inl (fun j => lI ((fwd F2 (rpw G (frW k P) P ((2 ^ k) / 2)) k P k) j))))), (rp, .inl (cJ, 256, .inr (.inl (fun j => lI ((rpw G (frW k P) P ((2 ^ k) / 2)) j)))))] H := hP
  have hD : va_D A [(lf, .inl (cJ, 512, .inr (.inl (fun j => lI ((fwd F1 (rpw G (frW k P) P ((2 ^ k) / 2)) k P k) j))))), (hh, .inr (0, [.ref lf, .ref rt, .ref rp])), (rt, .inl (cJ, 512, .inr (.inl (fun j => lI ((fwd F2 (rpw G (frW k P) P ((2 ^ k) / 2)) k P k) j))))), (rp, .inl (cJ, 256, .inr (.inl (fun j => lI ((rpw G (frW k P) P ((2 ^ k) / 2)) j)))))] := hD
  clear hPc hDc hKc hFc hP1 hD1 hk1 hz1 hvm ht
  clear hw
  refine lv_iconst (v := nI 0) hx hb dX0_foldRoundModulo_41 (by decide) ?_
  rw [show fwd F1 (rpw G (frW k P) P ((2 ^ k) / 2)) k P k = mlF (fwd F1 (rpw G (frW k P) P (2 ^ k / 2)) k P k) (fwd F2 (rpw G (frW k P) P (2 ^ k / 2)) k P k) P 0 from (mlF_0 _ _ _).symm] at hP hD
  have hP : va_P (dC, dI) vwCl [(lf, .inl (cJ, 512, .inr (.inl (fun j => lI ((mlF (fwd F1 (rpw G (frW k P) P (2 ^ k / 2)) k P k) (fwd F2 (rpw G (frW k P) P (2 ^ k / 2)) k P k) P 0) j))))), (hh, .inr (0, [.ref lf, .ref rt, .ref rp])), (rt, .inl (cJ, 512, .inr (.inl (fun j => lI ((fwd F2 (rpw G (frW k P) P ((2 ^ k) / 2)) k P k) j))))), (rp, .inl (cJ, 256, .inr (.inl (fun j => lI ((rpw G (frW k P) P ((2 ^ k) / 2)) j)))))] H := hP
  have hD : va_D A [(lf, .inl (cJ, 512, .inr (.inl (fun j => lI ((mlF (fwd F1 (rpw G (frW k P) P (2 ^ k / 2)) k P k) (fwd F2 (rpw G (frW k P) P (2 ^ k / 2)) k P k) P 0) j))))), (hh, .inr (0, [.ref lf, .ref rt, .ref rp])), (rt, .inl (cJ, 512, .inr (.inl (fun j => lI ((fwd F2 (rpw G (frW k P) P ((2 ^ k) / 2)) k P k) j))))), (rp, .inl (cJ, 256, .inr (.inl (fun j => lI ((rpw G (frW k P) P ((2 ^ k) / 2)) j)))))] := hD
  refine lv_istore (lv' := [(6, .int (nI 0)), (4, .long (lI (frW k P))), (3, .int (nI (2 ^ k))), (0, .ref hh), (1, .int (nI k)), (2, .int (nI P))]) hx hb dX0_foldRoundModulo_42 hl (by decide) rfl (fun ls hl => ?_)
  have key_44 : ∀ (fuel : Nat) (i : Nat), (i ≤ 2 ^ k) → (2 ^ k - i < fuel) → ∀ (H : Heap) (locs : List Loc) (ls : Array Slot), va_P (dC, dI) vwCl [(hh, .inr (0, [.ref lf, .ref rt, .ref rp])), (lf, .inl (cJ, 512, .inr (.inl (fun j => lI ((mlF (fwd F1 (rpw G (frW k P) P (2 ^ k / 2)) k P k) (fwd F2 (rpw G (frW k P) P (2 ^ k / 2)) k P k) P i) j))))), (rt, .inl (cJ, 512, .inr (.inl (fun j => lI ((fwd F2 (rpw G (frW k P) P (2 ^ k / 2)) k P k) j))))), (rp, .inl (cJ, 256, .inr (.inl (fun j => lI ((rpw G (frW k P) P (2 ^ k / 2)) j)))))] H → va_D A [(hh, .inr (0, [.ref lf, .ref rt, .ref rp])), (lf, .inl (cJ, 512, .inr (.inl (fun j => lI ((mlF (fwd F1 (rpw G (frW k P) P (2 ^ k / 2)) k P k) (fwd F2 (rpw G (frW k P) P (2 ^ k / 2)) k P k) P i) j))))), (rt, .inl (cJ, 512, .inr (.inl (fun j => lI ((fwd F2 (rpw G (frW k P) P (2 ^ k / 2)) k P k) j))))), (rp, .inl (cJ, 256, .inr (.inl (fun j => lI ((rpw G (frW k P) P (2 ^ k / 2)) j)))))] → va_S A s.heap H locs → lv_has ls 7 [(6, .int (nI i)), (4, .long (lI (frW k P))), (3, .int (nI (2 ^ k))), (2, .int (nI P)), (1, .int (nI k)), (0, .ref hh)] → W p l e (headSpec wsX0_foldRoundModulo { frames := 3, cells := 0, slots := 0, locals := 77 }).room s m ([.ref hh, .int (nI k), .int (nI P)] : List Value).toArray below meth c H locs 0 0 (MQ below (q_X0_foldRoundModulo dC dI cJ hh lf rt rp F1 F2 G k P  A) ([.ref hh, .int (nI k), .int (nI P)] : List Value).toArray s 0 0 A) (F0 m 44 ls []) := by
    intro fuel
    induction fuel with
    | zero => intro i; intros; omega
    | succ fuel ih_44 =>
      intro i hi hfu H locs ls hP hD hS hl
      refine lv_iload hx hb dX0_foldRoundModulo_44 (lv_at hl 0 rfl) ?_
      refine lv_iload_n hx hb dX0_foldRoundModulo_46 rfl (lv_at hl 2 rfl) ?_
      refine lv_icmp_ge (tgt := 81) hx hb dX0_foldRoundModulo_47 (by decide) (fun c_1 => ?_) (fun c_1 => ?_)
      · have c_1 : 2 ^ k ≤ i := (nI_leI (a := 2 ^ k) (b := i) (by omega) (by omega)).mp c_1
        rw [show mlF (fwd F1 (rpw G (frW k P) P (2 ^ k / 2)) k P k) (fwd F2 (rpw G (frW k P) P (2 ^ k / 2)) k P k) P i = mlF (fwd F1 (rpw G (frW k P) P (2 ^ k / 2)) k P k) (fwd F2 (rpw G (frW k P) P (2 ^ k / 2)) k P k) P (2 ^ k) from by rw [show i = 2 ^ k by omega]] at hP hD
        have hP : va_P (dC, dI) vwCl [(hh, .inr (0, [.ref lf, .ref rt, .ref rp])), (lf, .inl (cJ, 512, .inr (.inl (fun j => lI ((mlF (fwd F1 (rpw G (frW k P) P (2 ^ k / 2)) k P k) (fwd F2 (rpw G (frW k P) P (2 ^ k / 2)) k P k) P (2 ^ k)) j))))), (rt, .inl (cJ, 512, .inr (.inl (fun j => lI ((fwd F2 (rpw G (frW k P) P (2 ^ k / 2)) k P k) j))))), (rp, .inl (cJ, 256, .inr (.inl (fun j => lI ((rpw G (frW k P) P (2 ^ k / 2)) j)))))] H := hP
        have hD : va_D A [(hh, .inr (0, [.ref lf, .ref rt, .ref rp])), (lf, .inl (cJ, 512, .inr (.inl (fun j => lI ((mlF (fwd F1 (rpw G (frW k P) P (2 ^ k / 2)) k P k) (fwd F2 (rpw G (frW k P) P (2 ^ k / 2)) k P k) P (2 ^ k)) j))))), (rt, .inl (cJ, 512, .inr (.inl (fun j => lI ((fwd F2 (rpw G (frW k P) P (2 ^ k / 2)) k P k) j))))), (rp, .inl (cJ, 256, .inr (.inl (fun j => lI ((rpw G (frW k P) P (2 ^ k / 2)) j)))))] := hD
        refine lv_aload_n hx hb dX0_foldRoundModulo_81 rfl (lv_at hl 5 rfl) ?_
        refine lv_lload hx hb dX0_foldRoundModulo_82 (lv_at hl 1 rfl) ?_
        refine lv_iload_n hx hb dX0_foldRoundModulo_84 rfl (lv_at hl 3 rfl) ?_
        have hPc := hP.sub (ws' := []) [] rfl
        have hDc := hD.sub (ws' := []) [] (by decide) rfl
        have hKc := hK.sub (tys' := []) [] rfl
        have hFc := va_free (wc := []) hD hS hA [] rfl
        refine va_calll (va_runS (As := [.long (lI (frW k P)), .int (nI P)]) (rest := [.ref hh]) ⟨hx, hb, hml, hown, hts⟩ (c_X1_inverse l dC dI (frW k P) P H.size (by omega) (by omega) (by omega) (by omega)) (va_cwS 2 hts gX0_foldRoundModulo_X1_inverse rfl rfl rfl (by decide +kernel) ⟨Nat.le_of_ble_eq_true rfl, Nat.le_of_ble_eq_true rfl⟩) ⟨fun a U g mk q => by obtain ⟨q0, q1, qP, qK, qD⟩ := q; exact ⟨q0, q1, qP, va_K.moved (u := U) (U := U.calling g mk a) (Vm.Alike.refl U.vm) qK, qD⟩, fun U hU hW => ⟨rfl, by rw [hU], by rw [hU]; exact hPc, va_K.moved hW.alike hKc, hDc.weaken (fun _ _ _ _ => trivial)⟩⟩ rfl rfl hl.1 rfl (lv_room (Nat.le_of_ble_eq_true rfl)) dX0_foldRoundModulo_85 ⟨Nat.le_of_ble_eq_true rfl, Nat.le_of_ble_eq_true rfl⟩) hS (fun q _ h => hFc q h) hFc (fun r9 u9 t9 H1 locs ht hvm hw hB hz1 hk1 hS => ?_)
        obtain ⟨hP1, hD1⟩ := hB
        rw [ht] at hP1
        try dsimp only at hw
        obtain ⟨hP, hD⟩ := va_join (wr := [(hh, .inr (0, [.ref lf, .ref rt, .ref rp])), (lf, .inl (cJ, 512, .inr (.inl (fun j => lI ((mlF (fwd F1 (rpw G (frW k P) P (2 ^ k / 2)) k P k) (fwd F2 (rpw G (frW k P) P (2 ^ k / 2)) k P k) P (2 ^ k)) j))))), (rt, .inl (cJ, 512, .inr (.inl (fun j => lI ((fwd F2 (rpw G (frW k P) P (2 ^ k / 2)) k P k) j))))), (rp, .inl (cJ, 256, .inr (.inl (fun j => lI ((rpw G (frW k P) P (2 ^ k / 2)) j)))))]) (w1 := []) hP hD [] [0, 1, 2, 3] rfl rfl (by decide) (by decide) hk1 hFc hP1 hD1
        generalize H1 = H at hP hS ⊢
        have hP : va_P (dC, dI) vwCl [(hh, .inr (0, [.ref lf, .ref rt, .ref rp])), (lf, .inl (cJ, 512, .inr (.inl (fun j => lI ((mlF (fwd F1 (rpw G (frW k P) P (2 ^ k / 2)) k P k) (fwd F2 (rpw G (frW k P) P (2 ^ k / 2)) k P k) P (2 ^ k)) j))))), (rt, .inl (cJ, 512, .inr (.inl (fun j => lI ((fwd F2 (rpw G (frW k P) P (2 ^ k / 2)) k P k) j))))), (rp, .inl (cJ, 256, .inr (.inl (fun j => lI ((rpw G (frW k P) P (2 ^ k / 2)) j)))))] H := hP
        have hD : va_D A [(hh, .inr (0, [.ref lf, .ref rt, .ref rp])), (lf, .inl (cJ, 512, .inr (.inl (fun j => lI ((mlF (fwd F1 (rpw G (frW k P) P (2 ^ k / 2)) k P k) (fwd F2 (rpw G (frW k P) P (2 ^ k / 2)) k P k) P (2 ^ k)) j))))), (rt, .inl (cJ, 512, .inr (.inl (fun j => lI ((fwd F2 (rpw G (frW k P) P (2 ^ k / 2)) k P k) j))))), (rp, .inl (cJ, 256, .inr (.inl (fun j => lI ((rpw G (frW k P) P (2 ^ k / 2)) j)))))] := hD
        clear hPc hDc hKc hFc hP1 hD1 hk1 hz1 hvm ht
        subst hw
        refine lv_iload_n hx hb dX0_foldRoundModulo_88 rfl (lv_at hl 2 rfl) ?_
        refine lv_iconst (v := nI 2) hx hb dX0_foldRoundModulo_89 (by decide) ?_
        refine lv_idiv hx hb dX0_foldRoundModulo_90 (nI_ne0 (by omega) (by omega)) ?_
        refine W.eq (congrArg (fun z => F0 m _ ls (.int z :: _)) (show nI (2 ^ k) / nI 2 = nI ((2 ^ k) / 2) from pk_div (by omega) (by omega) (by omega))) ?_
        refine lv_iload_n hx hb dX0_foldRoundModulo_91 rfl (lv_at hl 3 rfl) ?_
        have hPc := hP.sub (ws' := [(hh, .inr (0, [.ref lf, .ref rt, .ref rp])), (rp, .inl (cJ, 256, .inr (.inl (fun j => lI ((rpw G (frW k P) P (2 ^ k / 2)) j)))))]) [0, 3] rfl
        have hDc := hD.sub (ws' := [(hh, .inr (0, [.ref lf, .ref rt, .ref rp])), (rp, .inl (cJ, 256, .inr (.inl (fun j => lI ((rpw G (frW k P) P (2 ^ k / 2)) j)))))]) [0, 3] (by decide) rfl
        have hKc := hK.sub (tys' := [(cJ, .long)]) [0] rfl
        have hFc := va_free (wc := [(hh, .inr (0, [.ref lf, .ref rt, .ref rp])), (rp, .inl (cJ, 256, .inr (.inl (fun j => lI ((rpw G (frW k P) P (2 ^ k / 2)) j)))))]) hD hS hA [0, 3] rfl
        refine va_callv (va_runV (As := [.long (lI ((frW k P) ^ (P - 2) % ((P : Nat) : Int))), .int (nI ((2 ^ k) / 2)), .int (nI P)]) (rest := []) ⟨hx, hb, hml, hown, hts⟩ (c_X0_listRootPowers l dC dI cJ hh lf rt rp (rpw G (frW k P) P (2 ^ k / 2)) ((frW k P) ^ (P - 2) % ((P : Nat) : Int)) ((2 ^ k) / 2) P H.size (by omega) (by omega) (by omega) (by omega) (by omega) (by omega)) (cwV 3 hts gX0_foldRoundModulo_X0_listRootPowers rfl rfl rfl (by decide +kernel) ⟨Nat.le_of_ble_eq_true rfl, Nat.le_of_ble_eq_true rfl⟩) ⟨fun a U g mk q => by obtain ⟨q0, q1, qP, qK, qD⟩ := q; exact ⟨q0, q1, qP, va_K.moved (u := U) (U := U.calling g mk a) (Vm.Alike.refl U.vm) qK, qD⟩, va_recv hKc hPc (ci := 0) (q0 := 0) rfl rfl, fun U hU hW => ⟨rfl, by rw [hU], by rw [hU]; exact hPc, va_K.moved hW.alike hKc, hDc.weaken (fun _ _ _ _ => trivial)⟩⟩ rfl rfl hl.1 rfl (lv_room (Nat.le_of_ble_eq_true rfl)) dX0_foldRoundModulo_92 ⟨Nat.le_of_ble_eq_true rfl, Nat.le_of_ble_eq_true rfl⟩) hS (fun q _ h => hFc q h) hFc (fun u9 t9 H1 locs ht hvm hw hB hz1 hk1 hS => ?_)
        obtain ⟨hP1, hD1⟩ := hB
        rw [ht] at hP1
        try dsimp only at hw
        obtain ⟨hP, hD⟩ := va_join (wr := [(lf, .inl (cJ, 512, .inr (.inl (fun j => lI ((mlF (fwd F1 (rpw G (frW k P) P (2 ^ k / 2)) k P k) (fwd F2 (rpw G (frW k P) P (2 ^ k / 2)) k P k) P (2 ^ k)) j))))), (rt, .inl (cJ, 512, .inr (.inl (fun j => lI ((fwd F2 (rpw G (frW k P) P (2 ^ k / 2)) k P k) j)))))]) (w1 := [(hh, .inr (0, [.ref lf, .ref rt, .ref rp])), (rp, .inl (cJ, 256, .inr (.inl (fun j => lI ((rpw (rpw G (frW k P) P (2 ^ k / 2)) ((frW k P) ^ (P - 2) % ((P : Nat) : Int)) P ((2 ^ k) / 2)) j)))))]) hP hD [0, 3] [1, 2] rfl rfl (by decide) (by decide) hk1 hFc hP1 hD1
        generalize H1 = H at hP hS ⊢
        have hP : va_P (dC, dI) vwCl [(lf, .inl (cJ, 512, .inr (.inl (fun j => lI ((mlF (fwd F1 (rpw G (frW k P) P (2 ^ k / 2)) k P k) (fwd F2 (rpw G (frW k P) P (2 ^ k / 2)) k P k) P (2 ^ k)) j))))), (rt, .inl (cJ, 512, .inr (.inl (fun j => lI ((fwd F2 (rpw G (frW k P) P (2 ^ k / 2)) k P k) j))))), (hh, .inr (0, [.ref lf, .ref rt, .ref rp])), (rp, .inl (cJ, 256, .inr (.inl (fun j => lI ((rpw (rpw G (frW k P) P (2 ^ k / 2)) ((frW k P) ^ (P - 2) % ((P : Nat) : Int)) P ((2 ^ k) / 2)) j)))))] H := hP
        have hD : va_D A [(lf, .inl (cJ, 512, .inr (.inl (fun j => lI ((mlF (fwd F1 (rpw G (frW k P) P (2 ^ k / 2)) k P k) (fwd F2 (rpw G (frW k P) P (2 ^ k / 2)) k P k) P (2 ^ k)) j))))), (rt, .inl (cJ, 512, .inr (.inl (fun j => lI ((fwd F2 (rpw G (frW k P) P (2 ^ k / 2)) k P k) j))))), (hh, .inr (0, [.ref lf, .ref rt, .ref rp])), (rp, .inl (cJ, 256, .inr (.inl (fun j => lI ((rpw (rpw G (frW k P) P (2 ^ k / 2)) ((frW k P) ^ (P - 2) % ((P : Nat) : Int)) P ((2 ^ k) / 2)) j)))))] := hD
        clear hPc hDc hKc hFc hP1 hD1 hk1 hz1 hvm ht
        clear hw
        refine lv_aload_n hx hb dX0_foldRoundModulo_95 rfl (lv_at hl 5 rfl) ?_
        refine lv_aload_n hx hb dX0_foldRoundModulo_96 rfl (lv_at hl 5 rfl) ?_
        refine va_get (D := (dC, dI)) (ci := 0) (v := .ref lf) (C := RX0) (T := TX0) (N := 3) hx hb hts (by decide +kernel) hown hK hP 2 rfl rfl 0 (by decide) (hts (.fieldLink RX0 9 "ThreePrimes$Folder" "left" "[J") (by decide +kernel)) (fun _ h9 => h9) rfl dX0_foldRoundModulo_97 ?_
        refine lv_iload_n hx hb dX0_foldRoundModulo_100 rfl (lv_at hl 4 rfl) ?_
        refine lv_iload_n hx hb dX0_foldRoundModulo_101 rfl (lv_at hl 3 rfl) ?_
        have hPc := hP.sub (ws' := [(hh, .inr (0, [.ref lf, .ref rt, .ref rp])), (lf, .inl (cJ, 512, .inr (.inl (fun j => lI ((mlF (fwd F1 (rpw G (frW k P) P (2 ^ k / 2)) k P k) (fwd F2 (rpw G (frW k P) P (2 ^ k / 2)) k P k) P (2 ^ k)) j))))), (rp, .inl (cJ, 256, .inr (.inl (fun j => lI ((rpw (rpw G (frW k P) P (2 ^ k / 2)) ((frW k P) ^ (P - 2) % ((P : Nat) : Int)) P ((2 ^ k) / 2)) j)))))]) [2, 0, 3] rfl
        have hDc := hD.sub (ws' := [(hh, .inr (0, [.ref lf, .ref rt, .ref rp])), (lf, .inl (cJ, 512, .inr (.inl (fun j => lI ((mlF (fwd F1 (rpw G (frW k P) P (2 ^ k / 2)) k P k) (fwd F2 (rpw G (frW k P) P (2 ^ k / 2)) k P k) P (2 ^ k)) j))))), (rp, .inl (cJ, 256, .inr (.inl (fun j => lI ((rpw (rpw G (frW k P) P (2 ^ k / 2)) ((frW k P) ^ (P - 2) % ((P : Nat) : Int)) P ((2 ^ k) / 2)) j)))))]) [2, 0, 3] (by decide) rfl
        have hKc := hK.sub (tys' := [(cJ, .long)]) [0] rfl
        have hFc := va_free (wc := [(hh, .inr (0, [.ref lf, .ref rt, .ref rp])), (lf, .inl (cJ, 512, .inr (.inl (fun j => lI ((mlF (fwd F1 (rpw G (frW k P) P (2 ^ k / 2)) k P k) (fwd F2 (rpw G (frW k P) P (2 ^ k / 2)) k P k) P (2 ^ k)) j))))), (rp, .inl (cJ, 256, .inr (.inl (fun j => lI ((rpw (rpw G (frW k P) P (2 ^ k / 2)) ((frW k P) ^ (P - 2) % ((P : Nat) : Int)) P ((2 ^ k) / 2)) j)))))]) hD hS hA [2, 0, 3] rfl
        refine va_callv (va_runV (As := [.ref lf, .int (nI k), .int (nI P)]) (rest := []) ⟨hx, hb, hml, hown, hts⟩ (c_X0_turnBack l dC dI cJ hh lf rt rp lf (mlF (fwd F1 (rpw G (frW k P) P (2 ^ k / 2)) k P k) (fwd F2 (rpw G (frW k P) P (2 ^ k / 2)) k P k) P (2 ^ k)) (rpw (rpw G (frW k P) P (2 ^ k / 2)) ((frW k P) ^ (P - 2) % ((P : Nat) : Int)) P ((2 ^ k) / 2)) k P H.size (mlF_rng (by omega) (fwd_rng (by omega) zF1 _)) (rpw_rng (by omega) (Nat.le_refl _)) zk zk1 zP (by omega) (by omega)) (cwV 3 hts gX0_foldRoundModulo_X0_turnBack rfl rfl rfl (by decide +kernel) ⟨Nat.le_of_ble_eq_true rfl, Nat.le_of_ble_eq_true rfl⟩) ⟨fun a U g mk q => by obtain ⟨q0, q1, qP, qK, qD⟩ := q; exact ⟨q0, q1, qP, va_K.moved (u := U) (U := U.calling g mk a) (Vm.Alike.refl U.vm) qK, qD⟩, va_recv hKc hPc (ci := 0) (q0 := 0) rfl rfl, fun U hU hW => ⟨rfl, by rw [hU], by rw [hU]; exact hPc, va_K.moved hW.alike hKc, hDc.weaken (fun _ _ _ _ => trivial)⟩⟩ rfl rfl hl.1 rfl (lv_room (Nat.le_of_ble_eq_true rfl)) dX0_foldRoundModulo_102 ⟨Nat.le_of_ble_eq_true rfl, Nat.le_of_ble_eq_true rfl⟩) hS (fun q _ h => hFc q h) hFc (fun u9 t9 H1 locs ht hvm hw hB hz1 hk1 hS => ?_)
        obtain ⟨hP1, hD1⟩ := hB
        rw [ht] at hP1
        try dsimp only at hw
        obtain ⟨hP, hD⟩ := va_join (wr := [(rt, .inl (cJ, 512, .inr (.inl (fun j => lI ((fwd F2 (rpw G (frW k P) P (2 ^ k / 2)) k P k) j)))))]) (w1 := [(hh, .inr (0, [.ref lf, .ref rt, .ref rp])), (lf, .inl (cJ, 512, .inr (.inl (fun j => lI ((mlW (bwd (mlF (fwd F1 (rpw G (frW k P) P (2 ^ k / 2)) k P k) (fwd F2 (rpw G (frW k P) P (2 ^ k / 2)) k P k) P (2 ^ k)) (rpw (rpw G (frW k P) P (2 ^ k / 2)) ((frW k P) ^ (P - 2) % ((P : Nat) : Int)) P ((2 ^ k) / 2)) k P k) ((2 ^ k : Int) ^ (P - 2) % (P : Int)) P (2 ^ k)) j))))), (rp, .inl (cJ, 256, .inr (.inl (fun j => lI ((rpw (rpw G (frW k P) P (2 ^ k / 2)) ((frW k P) ^ (P - 2) % ((P : Nat) : Int)) P ((2 ^ k) / 2)) j)))))]) hP hD [2, 0, 3] [1] rfl rfl (by decide) (by decide) hk1 hFc hP1 hD1
        generalize H1 = H at hP hS ⊢
        have hP : va_P (dC, dI) vwCl [(rt, .inl (cJ, 512, .inr (.inl (fun j => lI ((fwd F2 (rpw G (frW k P) P (2 ^ k / 2)) k P k) j))))), (hh, .inr (0, [.ref lf, .ref rt, .ref rp])), (lf, .inl (cJ, 512, .inr (.inl (fun j => lI ((mlW (bwd (mlF (fwd F1 (rpw G (frW k P) P (2 ^ k / 2)) k P k) (fwd F2 (rpw G (frW k P) P (2 ^ k / 2)) k P k) P (2 ^ k)) (rpw (rpw G (frW k P) P (2 ^ k / 2)) ((frW k P) ^ (P - 2) % ((P : Nat) : Int)) P ((2 ^ k) / 2)) k P k) ((2 ^ k : Int) ^ (P - 2) % (P : Int)) P (2 ^ k)) j))))), (rp, .inl (cJ, 256, .inr (.inl (fun j => lI ((rpw (rpw G (frW k P) P (2 ^ k / 2)) ((frW k P) ^ (P - 2) % ((P : Nat) : Int)) P ((2 ^ k) / 2)) j)))))] H := hP
        have hD : va_D A [(rt, .inl (cJ, 512, .inr (.inl (fun j => lI ((fwd F2 (rpw G (frW k P) P (2 ^ k / 2)) k P k) j))))), (hh, .inr (0, [.ref lf, .ref rt, .ref rp])), (lf, .inl (cJ, 512, .inr (.inl (fun j => lI ((mlW (bwd (mlF (fwd F1 (rpw G (frW k P) P (2 ^ k / 2)) k P k) (fwd F2 (rpw G (frW k P) P (2 ^ k / 2)) k P k) P (2 ^ k)) (rpw (rpw G (frW k P) P (2 ^ k / 2)) ((frW k P) ^ (P - 2) % ((P : Nat) : Int)) P ((2 ^ k) / 2)) k P k) ((2 ^ k : Int) ^ (P - 2) % (P : Int)) P (2 ^ k)) j))))), (rp, .inl (cJ, 256, .inr (.inl (fun j => lI ((rpw (rpw G (frW k P) P (2 ^ k / 2)) ((frW k P) ^ (P - 2) % ((P : Nat) : Int)) P ((2 ^ k) / 2)) j)))))] := hD
        clear hPc hDc hKc hFc hP1 hD1 hk1 hz1 hvm ht
        clear hw
        have hP : va_P (dC, dI) vwCl [(hh, .inr (0, [.ref lf, .ref rt, .ref rp])), (lf, .inl (cJ, 512, .inr (.inl (fun j => lI ((frm F1 F2 G k P) j))))), (rt, .inl (cJ, 512, .inr (.inl (fun j => lI ((fwd F2 (rpw G (frW k P) P (2 ^ k / 2)) k P k) j))))), (rp, .inl (cJ, 256, .inr (.inl (fun j => lI ((rpw (rpw G (frW k P) P (2 ^ k / 2)) (frW k P ^ (P - 2) % (P : Int)) P (2 ^ k / 2)) j)))))] H := hP.sub [1, 2, 0, 3] rfl
        have hD : va_D A [(hh, .inr (0, [.ref lf, .ref rt, .ref rp])), (lf, .inl (cJ, 512, .inr (.inl (fun j => lI ((frm F1 F2 G k P) j))))), (rt, .inl (cJ, 512, .inr (.inl (fun j => lI ((fwd F2 (rpw G (frW k P) P (2 ^ k / 2)) k P k) j))))), (rp, .inl (cJ, 256, .inr (.inl (fun j => lI ((rpw (rpw G (frW k P) P (2 ^ k / 2)) (frW k P ^ (P - 2) % (P : Int)) P (2 ^ k / 2)) j)))))] := hD.sub [1, 2, 0, 3] (by decide) rfl
        have hP9 : va_P (dC, dI) vwCl [(hh, .inr (0, [.ref lf, .ref rt, .ref rp])), (lf, .inl (cJ, 512, .inr (.inl (fun j => lI ((frm F1 F2 G k P) j))))), (rt, .inl (cJ, 512, .inr (.inl (fun j => lI ((fwd F2 (rpw G (frW k P) P (2 ^ k / 2)) k P k) j))))), (rp, .inl (cJ, 256, .inr (.inl (fun j => lI ((rpw (rpw G (frW k P) P (2 ^ k / 2)) (frW k P ^ (P - 2) % (P : Int)) P (2 ^ k / 2)) j)))))] H := hP.sub [0, 1, 2, 3] rfl
        have hD9 : va_D A [(hh, .inr (0, [.ref lf, .ref rt, .ref rp])), (lf, .inl (cJ, 512, .inr (.inl (fun j => lI ((frm F1 F2 G k P) j))))), (rt, .inl (cJ, 512, .inr (.inl (fun j => lI ((fwd F2 (rpw G (frW k P) P (2 ^ k / 2)) k P k) j))))), (rp, .inl (cJ, 256, .inr (.inl (fun j => lI ((rpw (rpw G (frW k P) P (2 ^ k / 2)) (frW k P ^ (P - 2) % (P : Int)) P (2 ^ k / 2)) j)))))] := hD.sub [0, 1, 2, 3] (by decide) rfl
        exact W.vret hx hb hr (fun t ht hW => ⟨⟨(fwd F2 (rpw G (frW k P) P (2 ^ k / 2)) k P k, rpw (rpw G (frW k P) P (2 ^ k / 2)) (frW k P ^ (P - 2) % (P : Int)) P (2 ^ k / 2)), rfl, trivial, by rw [ht]; exact hP9, hD9⟩, hS.F ht⟩) hS.2.2 dX0_foldRoundModulo_105
      · have c_1 : ¬ (2 ^ k ≤ i) := fun zq9 => c_1 ((nI_leI (a := 2 ^ k) (b := i) (by omega) (by omega)).mpr zq9)
        have f1 := fwd_rng (G := rpw G (frW k P) P (2 ^ k / 2)) (k := k) (show (0 : Int) < P by omega) zF1 k i (by omega)
        have f2 := fwd_rng (G := rpw G (frW k P) P (2 ^ k / 2)) (k := k) (show (0 : Int) < P by omega) zF2 k i (by omega)
        have b1 := mul_b30 f1.1 f1.2 f2.1 f2.2 (by omega)
        refine lv_aload_n hx hb dX0_foldRoundModulo_50 rfl (lv_at hl 5 rfl) ?_
        refine va_get (D := (dC, dI)) (ci := 0) (v := .ref lf) (C := RX0) (T := TX0) (N := 3) hx hb hts (by decide +kernel) hown hK hP 0 rfl rfl 0 (by decide) (hts (.fieldLink RX0 9 "ThreePrimes$Folder" "left" "[J") (by decide +kernel)) (fun _ h9 => h9) rfl dX0_foldRoundModulo_51 ?_
        refine lv_iload hx hb dX0_foldRoundModulo_54 (lv_at hl 0 rfl) ?_
        refine lv_aload_n hx hb dX0_foldRoundModulo_56 rfl (lv_at hl 5 rfl) ?_
        refine va_get (D := (dC, dI)) (ci := 0) (v := .ref lf) (C := RX0) (T := TX0) (N := 3) hx hb hts (by decide +kernel) hown hK hP 0 rfl rfl 0 (by decide) (hts (.fieldLink RX0 9 "ThreePrimes$Folder" "left" "[J") (by decide +kernel)) (fun _ h9 => h9) rfl dX0_foldRoundModulo_57 ?_
        refine lv_iload hx hb dX0_foldRoundModulo_60 (lv_at hl 0 rfl) ?_
        refine va_lald hx hb hK hP 1 0 rfl rfl (vp_in_nI (by omega) (by omega)) dX0_foldRoundModulo_62 ?_
        refine W.eq (g2 := F0 m _ ls [.long (lI ((mlF (fwd F1 (rpw G (frW k P) P (2 ^ k / 2)) k P k) (fwd F2 (rpw G (frW k P) P (2 ^ k / 2)) k P k) P i) i)), .int (nI i), .ref lf]) (by rw [nI_clamp (by omega)]) ?_
        refine W.eq (congrArg (fun z => F0 m _ ls (.long z :: _)) (show lI ((mlF (fwd F1 (rpw G (frW k P) P (2 ^ k / 2)) k P k) (fwd F2 (rpw G (frW k P) P (2 ^ k / 2)) k P k) P i) i) = lI ((fwd F1 (rpw G (frW k P) P (2 ^ k / 2)) k P k) i) from congrArg lI mlF_i)) ?_
        refine lv_aload_n hx hb dX0_foldRoundModulo_63 rfl (lv_at hl 5 rfl) ?_
        refine va_get (D := (dC, dI)) (ci := 0) (v := .ref rt) (C := RX0) (T := TX0) (N := 3) hx hb hts (by decide +kernel) hown hK hP 0 rfl rfl 1 (by decide) (hts (.fieldLink RX0 15 "ThreePrimes$Folder" "right" "[J") (by decide +kernel)) (fun _ h9 => h9) rfl dX0_foldRoundModulo_64 ?_
        refine lv_iload hx hb dX0_foldRoundModulo_67 (lv_at hl 0 rfl) ?_
        refine va_lald hx hb hK hP 2 0 rfl rfl (vp_in_nI (by omega) (by omega)) dX0_foldRoundModulo_69 ?_
        refine W.eq (g2 := F0 m _ ls [.long (lI ((fwd F2 (rpw G (frW k P) P (2 ^ k / 2)) k P k) i)), .long (lI ((fwd F1 (rpw G (frW k P) P (2 ^ k / 2)) k P k) i)), .int (nI i), .ref lf]) (by rw [nI_clamp (by omega)]) ?_
        refine lv_lmul hx hb dX0_foldRoundModulo_70 ?_
        refine W.eq (congrArg (fun z => F0 m _ ls (.long z :: _)) (show lI ((fwd F1 (rpw G (frW k P) P (2 ^ k / 2)) k P k) i) * lI ((fwd F2 (rpw G (frW k P) P (2 ^ k / 2)) k P k) i) = lI (((fwd F1 (rpw G (frW k P) P (2 ^ k / 2)) k P k) i) * ((fwd F2 (rpw G (frW k P) P (2 ^ k / 2)) k P k) i)) from lI_mul ((fwd F1 (rpw G (frW k P) P (2 ^ k / 2)) k P k) i) ((fwd F2 (rpw G (frW k P) P (2 ^ k / 2)) k P k) i))) ?_
        refine lv_iload_n hx hb dX0_foldRoundModulo_71 rfl (lv_at hl 3 rfl) ?_
        refine lv_i2l (v := lI ((P : Nat) : Int)) hx hb dX0_foldRoundModulo_72 (nI_lI (by omega)) ?_
        refine lv_lrem hx hb dX0_foldRoundModulo_73 (fun zq9 => absurd ((lI_eq (b := 0) (by omega) (by omega) (by omega) (by omega)).mp zq9) (by omega)) ?_
        refine W.eq (congrArg (fun z => F0 m _ ls (.long z :: _)) (show lI (((fwd F1 (rpw G (frW k P) P (2 ^ k / 2)) k P k) i) * ((fwd F2 (rpw G (frW k P) P (2 ^ k / 2)) k P k) i)) - lI (((fwd F1 (rpw G (frW k P) P (2 ^ k / 2)) k P k) i) * ((fwd F2 (rpw G (frW k P) P (2 ^ k / 2)) k P k) i)) / lI ((P : Nat) : Int) * lI ((P : Nat) : Int) = lI ((((fwd F1 (rpw G (frW k P) P (2 ^ k / 2)) k P k) i) * ((fwd F2 (rpw G (frW k P) P (2 ^ k / 2)) k P k) i)) % ((P : Nat) : Int)) from lI_rem0 (by omega) (by omega) (by omega) (by omega))) ?_
        refine va_last hx hb hK hP hD hS 1 0 rfl rfl (vp_in_nI (by omega) (by omega)) dX0_foldRoundModulo_74 (fun H locs hP hD hS => ?_)
        rw [nI_clamp (show i < 2 ^ 31 by omega)] at hP hD
        rw [upI_l] at hP hD
        have hP : va_P (dC, dI) vwCl [(hh, .inr (0, [.ref lf, .ref rt, .ref rp])), (lf, .inl (cJ, 512, .inr (.inl (fun j => lI ((upI (mlF (fwd F1 (rpw G (frW k P) P (2 ^ k / 2)) k P k) (fwd F2 (rpw G (frW k P) P (2 ^ k / 2)) k P k) P i) i ((((fwd F1 (rpw G (frW k P) P (2 ^ k / 2)) k P k) i) * ((fwd F2 (rpw G (frW k P) P (2 ^ k / 2)) k P k) i)) % ((P : Nat) : Int))) j))))), (rt, .inl (cJ, 512, .inr (.inl (fun j => lI ((fwd F2 (rpw G (frW k P) P (2 ^ k / 2)) k P k) j))))), (rp, .inl (cJ, 256, .inr (.inl (fun j => lI ((rpw G (frW k P) P (2 ^ k / 2)) j)))))] H := hP
        have hD : va_D A [(hh, .inr (0, [.ref lf, .ref rt, .ref rp])), (lf, .inl (cJ, 512, .inr (.inl (fun j => lI ((upI (mlF (fwd F1 (rpw G (frW k P) P (2 ^ k / 2)) k P k) (fwd F2 (rpw G (frW k P) P (2 ^ k / 2)) k P k) P i) i ((((fwd F1 (rpw G (frW k P) P (2 ^ k / 2)) k P k) i) * ((fwd F2 (rpw G (frW k P) P (2 ^ k / 2)) k P k) i)) % ((P : Nat) : Int))) j))))), (rt, .inl (cJ, 512, .inr (.inl (fun j => lI ((fwd F2 (rpw G (frW k P) P (2 ^ k / 2)) k P k) j))))), (rp, .inl (cJ, 256, .inr (.inl (fun j => lI ((rpw G (frW k P) P (2 ^ k / 2)) j)))))] := hD
        rw [show upI (mlF (fwd F1 (rpw G (frW k P) P (2 ^ k / 2)) k P k) (fwd F2 (rpw G (frW k P) P (2 ^ k / 2)) k P k) P i) i ((((fwd F1 (rpw G (frW k P) P (2 ^ k / 2)) k P k) i) * ((fwd F2 (rpw G (frW k P) P (2 ^ k / 2)) k P k) i)) % ((P : Nat) : Int)) = mlF (fwd F1 (rpw G (frW k P) P (2 ^ k / 2)) k P k) (fwd F2 (rpw G (frW k P) P (2 ^ k / 2)) k P k) P (i + 1) from mlF_s] at hP hD
        have hP : va_P (dC, dI) vwCl [(hh, .inr (0, [.ref lf, .ref rt, .ref rp])), (lf, .inl (cJ, 512, .inr (.inl (fun j => lI ((mlF (fwd F1 (rpw G (frW k P) P (2 ^ k / 2)) k P k) (fwd F2 (rpw G (frW k P) P (2 ^ k / 2)) k P k) P (i + 1)) j))))), (rt, .inl (cJ, 512, .inr (.inl (fun j => lI ((fwd F2 (rpw G (frW k P) P (2 ^ k / 2)) k P k) j))))), (rp, .inl (cJ, 256, .inr (.inl (fun j => lI ((rpw G (frW k P) P (2 ^ k / 2)) j)))))] H := hP
        have hD : va_D A [(hh, .inr (0, [.ref lf, .ref rt, .ref rp])), (lf, .inl (cJ, 512, .inr (.inl (fun j => lI ((mlF (fwd F1 (rpw G (frW k P) P (2 ^ k / 2)) k P k) (fwd F2 (rpw G (frW k P) P (2 ^ k / 2)) k P k) P (i + 1)) j))))), (rt, .inl (cJ, 512, .inr (.inl (fun j => lI ((fwd F2 (rpw G (frW k P) P (2 ^ k / 2)) k P k) j))))), (rp, .inl (cJ, 256, .inr (.inl (fun j => lI ((rpw G (frW k P) P (2 ^ k / 2)) j)))))] := hD
        refine lv_iinc (v := nI (i + 1)) (lv' := [(6, .int (nI (i + 1))), (4, .long (lI (frW k P))), (3, .int (nI (2 ^ k))), (2, .int (nI P)), (1, .int (nI k)), (0, .ref hh)]) hx hb dX0_foldRoundModulo_75 hl (k := 0) rfl (nI_add i 1) (by decide) rfl (fun ls hl => ?_)
        refine lv_goto (tgt := 44) hx hb dX0_foldRoundModulo_78 (by decide) ?_
        exact ih_44  (i + 1) (by omega) (by omega) _ _ _ (hP.sub [0, 1, 2, 3] rfl) (hD.sub [0, 1, 2, 3] (by decide) rfl) hS (lv_sub hl [0, 1, 2, 3, 4, 5] rfl)
  exact key_44 (2 ^ k + 1) 0 (by omega) (by omega) _ _ _ (hP.sub [1, 0, 2, 3] rfl) (hD.sub [1, 0, 2, 3] (by decide) rfl) hS (lv_sub hl [0, 1, 2, 5, 4, 3] rfl)

abbrev q_X2_setRemainder (dC : Nat → ClassId) (dI : Nat → Nat → Nat) (cI cO : ClassId) (sm so ra : Nat) (g : Nat → Option Nat) (f : Nat → Int32) (M q i : Nat) (x : Int) (A : Nat → Prop) : Array Value → State → Outcome → State → Prop := va_Qv (fun (u : Unit) => True) (fun u t => va_P (dC, dI) vwCl [(sm, .inr (1, [.ref so])), (so, .inl (cO, 3, .inr (.inr (.inr (.inr g))))), (ra, .inl (cI, M, .inl (upd f i (iI x))))] t.heap ∧ va_D A [(sm, .inr (1, [.ref so])), (so, .inl (cO, 3, .inr (.inr (.inr (.inr g))))), (ra, .inl (cI, M, .inl (upd f i (iI x))))]) A
set_option maxHeartbeats 4000000 in
set_option maxRecDepth 100000 in
theorem c_X2_setRemainder (l : Launch) (dC : Nat → ClassId) (dI : Nat → Nat → Nat) (cI cO : ClassId) (sm so ra : Nat) (g : Nat → Option Nat) (f : Nat → Int32) (M q i : Nat) (x : Int) (sz : Nat) (hg : g q = some ra) (hq : q < 3) (hi : i < M) (hM : M ≤ 512) : Met l yX2_setRemainder wsX2_setRemainder ({ frames := 0, cells := 0, slots := 0, locals := 0 }) (va_Pc [.ref sm, .int (nI q), .int (nI i), .long (lI x)] (fun U => U.heap.size = sz ∧ va_P (dC, dI) vwCl [(sm, .inr (1, [.ref so])), (so, .inl (cO, 3, .inr (.inr (.inr (.inr g))))), (ra, .inl (cI, M, .inl f))] U.heap ∧ va_K (dC, dI) vwCl [(cI, .int), (cO, .array .int)] U ∧ va_D (fun _ => True) [(sm, .inr (1, [.ref so])), (so, .inl (cO, 3, .inr (.inr (.inr (.inr g))))), (ra, .inl (cI, M, .inl f))])) (q_X2_setRemainder dC dI cI cO sm so ra g f M q i x (va_A [(sm, .inr (1, [.ref so])), (so, .inl (cO, 3, .inr (.inr (.inr (.inr g))))), (ra, .inl (cI, M, .inl f))] sz)) 0 0 (va_A [(sm, .inr (1, [.ref so])), (so, .inl (cO, 3, .inr (.inr (.inr (.inr g))))), (ra, .inl (cI, M, .inl f))] sz) := by
  refine Met.ofW (cc := cX2_setRemainder) (maxL := 5) (ret := none) (by decide) rfl ?_
  intro p e s m args below meth c s₁ B hml hv
  obtain ⟨rfl, hsz, hP, hK, hD0⟩ := hv
  have hx := B.exec
  have hb := B.bytes
  have hr := B.returns
  have hts := atoms_spec (ws := wsX2_setRemainder) B.pre
  have hown : s.vm.findClass RX2 = some m.cls := findClass_of_methodNamed B.named
  have hlocks := B.notSynchronized
  subst hsz
  have hD := hD0.self (sz := s.heap.size)
  generalize hAe : va_A [(sm, .inr (1, [.ref so])), (so, .inl (cO, 3, .inr (.inr (.inr (.inr g))))), (ra, .inl (cI, M, .inl f))] s.heap.size = A at hD ⊢
  have hA : ∀ q : Nat, s.heap.size ≤ q → A q := fun q h => by rw [← hAe]; exact Or.inr h
  have hS : va_S A s.heap s.heap [] := va_S.rf
  have hP : va_P (dC, dI) vwCl [(sm, .inr (1, [.ref so])), (so, .inl (cO, 3, .inr (.inr (.inr (.inr g))))), (ra, .inl (cI, M, .inl f))] s.heap := hP
  have hl := lv_entry (([.ref sm, .int (nI q), .int (nI i), .long (lI x)] : List Value)) (n := 5) (Nat.le_of_ble_eq_true rfl)
  rw [lg_entry_eq]
  generalize (lg_sl (([.ref sm, .int (nI q), .int (nI i), .long (lI x)] : List Value)) ++ List.replicate (5 - (lg_sl (([.ref sm, .int (nI q), .int (nI i), .long (lI x)] : List Value))).length) Slot.unset).toArray = ls at hl ⊢
  have hl : lv_has ls 5 [(0, .ref sm), (1, .int (nI q)), (2, .int (nI i)), (3, .long (lI x))] := hl
  obtain ⟨H, hHe⟩ : ∃ H : Heap, H = s.heap := ⟨_, rfl⟩
  rw [← hHe] at hP
  have hS : va_S A s.heap H [] := by rw [hHe]; exact hS
  obtain ⟨locs, hlo⟩ : ∃ L : List Loc, L = [] := ⟨_, rfl⟩
  rw [← hlo] at hS ⊢
  rw [← hHe]
  refine lv_aload_n hx hb dX2_setRemainder_0 rfl (lv_at hl 0 rfl) ?_
  refine va_get (D := (dC, dI)) (ci := 1) (v := .ref so) (C := RX2) (T := TX2) (N := 1) hx hb hts (by decide +kernel) hown hK hP 0 rfl rfl 0 (by decide) (hts (.fieldLink RX2 15 "ThreePrimes$Sums" "remainders" "[[I") (by decide +kernel)) (fun _ h9 => h9) rfl dX2_setRemainder_1 ?_
  refine lv_iload_n hx hb dX2_setRemainder_4 rfl (lv_at hl 1 rfl) ?_
  refine zz_aldA hx hb hK hP 1 1 rfl rfl (vp_in_nI (by omega) (by omega)) dX2_setRemainder_5 ?_
  refine W.eq (g2 := F0 m _ ls [.ref ra]) (by rw [nI_clamp (by omega), hg]; rfl) ?_
  refine lv_iload_n hx hb dX2_setRemainder_6 rfl (lv_at hl 2 rfl) ?_
  refine lv_lload_n hx hb dX2_setRemainder_7 rfl (lv_at hl 3 rfl) ?_
  refine lv_l2i (v := iI x) hx hb dX2_setRemainder_8 (lI_i x) ?_
  refine va_iast hx hb hK hP hD hS 2 0 rfl rfl (vp_in_nI (by omega) (by omega)) dX2_setRemainder_9 (fun H locs hP hD hS => ?_)
  rw [nI_clamp (show i < 2 ^ 31 by omega)] at hP hD
  have hP : va_P (dC, dI) vwCl [(sm, .inr (1, [.ref so])), (so, .inl (cO, 3, .inr (.inr (.inr (.inr g))))), (ra, .inl (cI, M, .inl (upd f i (iI x))))] H := hP
  have hD : va_D A [(sm, .inr (1, [.ref so])), (so, .inl (cO, 3, .inr (.inr (.inr (.inr g))))), (ra, .inl (cI, M, .inl (upd f i (iI x))))] := hD
  have hP9 : va_P (dC, dI) vwCl [(sm, .inr (1, [.ref so])), (so, .inl (cO, 3, .inr (.inr (.inr (.inr g))))), (ra, .inl (cI, M, .inl (upd f i (iI x))))] H := hP.sub [0, 1, 2] rfl
  have hD9 : va_D A [(sm, .inr (1, [.ref so])), (so, .inl (cO, 3, .inr (.inr (.inr (.inr g))))), (ra, .inl (cI, M, .inl (upd f i (iI x))))] := hD.sub [0, 1, 2] (by decide) rfl
  exact W.vret hx hb hr (fun t ht hW => ⟨⟨(), rfl, trivial, by rw [ht]; exact hP9, hD9⟩, hS.F ht⟩) hS.2.2 dX2_setRemainder_10

abbrev q_X2_remainder (dC : Nat → ClassId) (dI : Nat → Nat → Nat) (cI cO : ClassId) (sm so ra : Nat) (g : Nat → Option Nat) (f : Nat → Int32) (M q i : Nat) (A : Nat → Prop) : Array Value → State → Outcome → State → Prop := va_Qi (fun (r : Int32) (u : Unit) => r = f i) (fun u t => va_P (dC, dI) vwCl [(sm, .inr (1, [.ref so])), (so, .inl (cO, 3, .inr (.inr (.inr (.inr g))))), (ra, .inl (cI, M, .inl f))] t.heap ∧ va_D A [(sm, .inr (1, [.ref so])), (so, .inl (cO, 3, .inr (.inr (.inr (.inr g))))), (ra, .inl (cI, M, .inl f))]) A
set_option maxHeartbeats 4000000 in
set_option maxRecDepth 100000 in
theorem c_X2_remainder (l : Launch) (dC : Nat → ClassId) (dI : Nat → Nat → Nat) (cI cO : ClassId) (sm so ra : Nat) (g : Nat → Option Nat) (f : Nat → Int32) (M q i : Nat) (sz : Nat) (hg : g q = some ra) (hq : q < 3) (hi : i < M) (hM : M ≤ 512) : Met l yX2_remainder wsX2_remainder ({ frames := 0, cells := 0, slots := 0, locals := 0 }) (va_Pc [.ref sm, .int (nI q), .int (nI i)] (fun U => U.heap.size = sz ∧ va_P (dC, dI) vwCl [(sm, .inr (1, [.ref so])), (so, .inl (cO, 3, .inr (.inr (.inr (.inr g))))), (ra, .inl (cI, M, .inl f))] U.heap ∧ va_K (dC, dI) vwCl [(cI, .int), (cO, .array .int)] U ∧ va_D (fun _ => True) [(sm, .inr (1, [.ref so])), (so, .inl (cO, 3, .inr (.inr (.inr (.inr g))))), (ra, .inl (cI, M, .inl f))])) (q_X2_remainder dC dI cI cO sm so ra g f M q i (va_A [(sm, .inr (1, [.ref so])), (so, .inl (cO, 3, .inr (.inr (.inr (.inr g))))), (ra, .inl (cI, M, .inl f))] sz)) 0 0 (va_A [(sm, .inr (1, [.ref so])), (so, .inl (cO, 3, .inr (.inr (.inr (.inr g))))), (ra, .inl (cI, M, .inl f))] sz) := by
  refine Met.ofW (cc := cX2_remainder) (maxL := 3) (ret := (some .int)) (by decide) rfl ?_
  intro p e s m args below meth c s₁ B hml hv
  obtain ⟨rfl, hsz, hP, hK, hD0⟩ := hv
  have hx := B.exec
  have hb := B.bytes
  have hr := B.returns
  have hts := atoms_spec (ws := wsX2_remainder) B.pre
  have hown : s.vm.findClass RX2 = some m.cls := findClass_of_methodNamed B.named
  have hlocks := B.notSynchronized
  subst hsz
  have hD := hD0.self (sz := s.heap.size)
  generalize hAe : va_A [(sm, .inr (1, [.ref so])), (so, .inl (cO, 3, .inr (.inr (.inr (.inr g))))), (ra, .inl (cI, M, .inl f))] s.heap.size = A at hD ⊢
  have hA : ∀ q : Nat, s.heap.size ≤ q → A q := fun q h => by rw [← hAe]; exact Or.inr h
  have hS : va_S A s.heap s.heap [] := va_S.rf
  have hP : va_P (dC, dI) vwCl [(sm, .inr (1, [.ref so])), (so, .inl (cO, 3, .inr (.inr (.inr (.inr g))))), (ra, .inl (cI, M, .inl f))] s.heap := hP
  have hl := lv_entry (([.ref sm, .int (nI q), .int (nI i)] : List Value)) (n := 3) (Nat.le_of_ble_eq_true rfl)
  rw [lg_entry_eq]
  generalize (lg_sl (([.ref sm, .int (nI q), .int (nI i)] : List Value)) ++ List.replicate (3 - (lg_sl (([.ref sm, .int (nI q), .int (nI i)] : List Value))).length) Slot.unset).toArray = ls at hl ⊢
  have hl : lv_has ls 3 [(0, .ref sm), (1, .int (nI q)), (2, .int (nI i))] := hl
  obtain ⟨H, hHe⟩ : ∃ H : Heap, H = s.heap := ⟨_, rfl⟩
  rw [← hHe] at hP
  have hS : va_S A s.heap H [] := by rw [hHe]; exact hS
  obtain ⟨locs, hlo⟩ : ∃ L : List Loc, L = [] := ⟨_, rfl⟩
  rw [← hlo] at hS ⊢
  rw [← hHe]
  refine lv_aload_n hx hb dX2_remainder_0 rfl (lv_at hl 0 rfl) ?_
  refine va_get (D := (dC, dI)) (ci := 1) (v := .ref so) (C := RX2) (T := TX2) (N := 1) hx hb hts (by decide +kernel) hown hK hP 0 rfl rfl 0 (by decide) (hts (.fieldLink RX2 15 "ThreePrimes$Sums" "remainders" "[[I") (by decide +kernel)) (fun _ h9 => h9) rfl dX2_remainder_1 ?_
  refine lv_iload_n hx hb dX2_remainder_4 rfl (lv_at hl 1 rfl) ?_
  refine zz_aldA hx hb hK hP 1 1 rfl rfl (vp_in_nI (by omega) (by omega)) dX2_remainder_5 ?_
  refine W.eq (g2 := F0 m _ ls [.ref ra]) (by rw [nI_clamp (by omega), hg]; rfl) ?_
  refine lv_iload_n hx hb dX2_remainder_6 rfl (lv_at hl 2 rfl) ?_
  refine va_iald hx hb hK hP 2 0 rfl rfl (vp_in_nI (by omega) (by omega)) dX2_remainder_7 ?_
  refine W.eq (g2 := F0 m _ ls [.int (f i)]) (by rw [nI_clamp (by omega)]) ?_
  have hP9 : va_P (dC, dI) vwCl [(sm, .inr (1, [.ref so])), (so, .inl (cO, 3, .inr (.inr (.inr (.inr g))))), (ra, .inl (cI, M, .inl f))] H := hP.sub [0, 1, 2] rfl
  have hD9 : va_D A [(sm, .inr (1, [.ref so])), (so, .inl (cO, 3, .inr (.inr (.inr (.inr g))))), (ra, .inl (cI, M, .inl f))] := hD.sub [0, 1, 2] (by decide) rfl
  exact W.iret (v := f i) hx hb hr (fun t ht hW => ⟨⟨f i, (), rfl, rfl, by rw [ht]; exact hP9, hD9⟩, hS.F ht⟩) hS.2.2 dX2_remainder_8

abbrev q_X2_moduloFirstTwo (dC : Nat → ClassId) (dI : Nat → Nat → Nat) (cI cO : ClassId) (sm so r0 r1 r2 : Nat) (g : Nat → Option Nat) (R0 R1 R2 : Nat → Int32) (M i : Nat) (A : Nat → Prop) : Array Value → State → Outcome → State → Prop := va_Ql (fun (r : Int64) (u : Unit) => r = lI (mft (R0 i).toInt (R1 i).toInt)) (fun u t => va_P (dC, dI) vwCl [(sm, .inr (1, [.ref so])), (so, .inl (cO, 3, .inr (.inr (.inr (.inr g))))), (r0, .inl (cI, M, .inl R0)), (r1, .inl (cI, M, .inl R1)), (r2, .inl (cI, M, .inl R2))] t.heap ∧ va_D A [(sm, .inr (1, [.ref so])), (so, .inl (cO, 3, .inr (.inr (.inr (.inr g))))), (r0, .inl (cI, M, .inl R0)), (r1, .inl (cI, M, .inl R1)), (r2, .inl (cI, M, .inl R2))]) A
set_option maxHeartbeats 4000000 in
set_option maxRecDepth 100000 in
theorem c_X2_moduloFirstTwo (l : Launch) (dC : Nat → ClassId) (dI : Nat → Nat → Nat) (cI cO : ClassId) (sm so r0 r1 r2 : Nat) (g : Nat → Option Nat) (R0 R1 R2 : Nat → Int32) (M i : Nat) (sz : Nat) (hg0 : g 0 = some r0) (hg1 : g 1 = some r1) (hg2 : g 2 = some r2) (hi : i < M) (hM : M ≤ 512) : Met l yX2_moduloFirstTwo wsX2_moduloFirstTwo ({ frames := 1, cells := 0, slots := 0, locals := 24 }) (va_Pc [.ref sm, .int (nI i)] (fun U => U.heap.size = sz ∧ va_P (dC, dI) vwCl [(sm, .inr (1, [.ref so])), (so, .inl (cO, 3, .inr (.inr (.inr (.inr g))))), (r0, .inl (cI, M, .inl R0)), (r1, .inl (cI, M, .inl R1)), (r2, .inl (cI, M, .inl R2))] U.heap ∧ va_K (dC, dI) vwCl [(cI, .int), (cO, .array .int)] U ∧ va_D (fun _ => True) [(sm, .inr (1, [.ref so])), (so, .inl (cO, 3, .inr (.inr (.inr (.inr g))))), (r0, .inl (cI, M, .inl R0)), (r1, .inl (cI, M, .inl R1)), (r2, .inl (cI, M, .inl R2))])) (q_X2_moduloFirstTwo dC dI cI cO sm so r0 r1 r2 g R0 R1 R2 M i (va_A [(sm, .inr (1, [.ref so])), (so, .inl (cO, 3, .inr (.inr (.inr (.inr g))))), (r0, .inl (cI, M, .inl R0)), (r1, .inl (cI, M, .inl R1)), (r2, .inl (cI, M, .inl R2))] sz)) 0 0 (va_A [(sm, .inr (1, [.ref so])), (so, .inl (cO, 3, .inr (.inr (.inr (.inr g))))), (r0, .inl (cI, M, .inl R0)), (r1, .inl (cI, M, .inl R1)), (r2, .inl (cI, M, .inl R2))] sz) := by
  refine Met.ofW (cc := cX2_moduloFirstTwo) (maxL := 6) (ret := (some .long)) (by decide) rfl ?_
  intro p e s m args below meth c s₁ B hml hv
  obtain ⟨rfl, hsz, hP, hK, hD0⟩ := hv
  have hx := B.exec
  have hb := B.bytes
  have hr := B.returns
  have hts := atoms_spec (ws := wsX2_moduloFirstTwo) B.pre
  have hown : s.vm.findClass RX2 = some m.cls := findClass_of_methodNamed B.named
  have hlocks := B.notSynchronized
  subst hsz
  have hD := hD0.self (sz := s.heap.size)
  generalize hAe : va_A [(sm, .inr (1, [.ref so])), (so, .inl (cO, 3, .inr (.inr (.inr (.inr g))))), (r0, .inl (cI, M, .inl R0)), (r1, .inl (cI, M, .inl R1)), (r2, .inl (cI, M, .inl R2))] s.heap.size = A at hD ⊢
  have hA : ∀ q : Nat, s.heap.size ≤ q → A q := fun q h => by rw [← hAe]; exact Or.inr h
  have hS : va_S A s.heap s.heap [] := va_S.rf
  have hP : va_P (dC, dI) vwCl [(sm, .inr (1, [.ref so])), (so, .inl (cO, 3, .inr (.inr (.inr (.inr g))))), (r0, .inl (cI, M, .inl R0)), (r1, .inl (cI, M, .inl R1)), (r2, .inl (cI, M, .inl R2))] s.heap := hP
  have hl := lv_entry (([.ref sm, .int (nI i)] : List Value)) (n := 6) (Nat.le_of_ble_eq_true rfl)
  rw [lg_entry_eq]
  generalize (lg_sl (([.ref sm, .int (nI i)] : List Value)) ++ List.replicate (6 - (lg_sl (([.ref sm, .int (nI i)] : List Value))).length) Slot.unset).toArray = ls at hl ⊢
  have hl : lv_has ls 6 [(0, .ref sm), (1, .int (nI i))] := hl
  obtain ⟨H, hHe⟩ : ∃ H : Heap, H = s.heap := ⟨_, rfl⟩
  rw [← hHe] at hP
  have hS : va_S A s.heap H [] := by rw [hHe]; exact hS
  obtain ⟨locs, hlo⟩ : ∃ L : List Loc, L = [] := ⟨_, rfl⟩
  rw [← hlo] at hS ⊢
  rw [← hHe]
  have h0 := i32b (R0 i)
  have h1 := i32b (R1 i)
  refine lv_aload_n hx hb dX2_moduloFirstTwo_0 rfl (lv_at hl 0 rfl) ?_
  refine va_get (D := (dC, dI)) (ci := 1) (v := .ref so) (C := RX2) (T := TX2) (N := 1) hx hb hts (by decide +kernel) hown hK hP 0 rfl rfl 0 (by decide) (hts (.fieldLink RX2 15 "ThreePrimes$Sums" "remainders" "[[I") (by decide +kernel)) (fun _ h9 => h9) rfl dX2_moduloFirstTwo_1 ?_
  refine lv_iconst (v := nI 0) hx hb dX2_moduloFirstTwo_4 (by decide) ?_
  refine zz_aldA hx hb hK hP 1 1 rfl rfl (vp_in_nI (by omega) (by omega)) dX2_moduloFirstTwo_5 ?_
  refine W.eq (g2 := F0 m _ ls [.ref r0]) (by rw [nI_clamp (by omega), hg0]; rfl) ?_
  refine lv_iload_n hx hb dX2_moduloFirstTwo_6 rfl (lv_at hl 1 rfl) ?_
  refine va_iald hx hb hK hP 2 0 rfl rfl (vp_in_nI (by omega) (by omega)) dX2_moduloFirstTwo_7 ?_
  refine W.eq (g2 := F0 m _ ls [.int (R0 i)]) (by rw [nI_clamp (by omega)]) ?_
  refine lv_i2l (v := lI ((R0 i).toInt)) hx hb dX2_moduloFirstTwo_8 (i2l_I (R0 i)) ?_
  refine lv_lstore_n (lv' := [(2, .long (lI ((R0 i).toInt))), (0, .ref sm), (1, .int (nI i))]) hx hb dX2_moduloFirstTwo_9 rfl hl (by decide) rfl (fun ls hl => ?_)
  refine lv_aload_n hx hb dX2_moduloFirstTwo_10 rfl (lv_at hl 1 rfl) ?_
  refine va_get (D := (dC, dI)) (ci := 1) (v := .ref so) (C := RX2) (T := TX2) (N := 1) hx hb hts (by decide +kernel) hown hK hP 0 rfl rfl 0 (by decide) (hts (.fieldLink RX2 15 "ThreePrimes$Sums" "remainders" "[[I") (by decide +kernel)) (fun _ h9 => h9) rfl dX2_moduloFirstTwo_11 ?_
  refine lv_iconst (v := nI 1) hx hb dX2_moduloFirstTwo_14 (by decide) ?_
  refine zz_aldA hx hb hK hP 1 1 rfl rfl (vp_in_nI (by omega) (by omega)) dX2_moduloFirstTwo_15 ?_
  refine W.eq (g2 := F0 m _ ls [.ref r1]) (by rw [nI_clamp (by omega), hg1]; rfl) ?_
  refine lv_iload_n hx hb dX2_moduloFirstTwo_16 rfl (lv_at hl 2 rfl) ?_
  refine va_iald hx hb hK hP 3 0 rfl rfl (vp_in_nI (by omega) (by omega)) dX2_moduloFirstTwo_17 ?_
  refine W.eq (g2 := F0 m _ ls [.int (R1 i)]) (by rw [nI_clamp (by omega)]) ?_
  refine lv_i2l (v := lI ((R1 i).toInt)) hx hb dX2_moduloFirstTwo_18 (i2l_I (R1 i)) ?_
  refine lv_lload_n hx hb dX2_moduloFirstTwo_19 rfl (lv_at hl 0 rfl) ?_
  refine lv_lsub hx hb dX2_moduloFirstTwo_20 ?_
  refine W.eq (congrArg (fun z => F0 m _ ls (.long z :: _)) (show lI ((R1 i).toInt) - lI ((R0 i).toInt) = lI (((R1 i).toInt) - ((R0 i).toInt)) from lI_sub ((R1 i).toInt) ((R0 i).toInt))) ?_
  refine lv_lstore (lv' := [(4, .long (lI (((R1 i).toInt) - ((R0 i).toInt)))), (2, .long (lI ((R0 i).toInt))), (0, .ref sm), (1, .int (nI i))]) hx hb dX2_moduloFirstTwo_21 hl (by decide) rfl (fun ls hl => ?_)
  refine lv_lload_n hx hb dX2_moduloFirstTwo_23 rfl (lv_at hl 1 rfl) ?_
  refine lv_ldc2 (own := RX2) (v := lI (998244353)) hx hb hown (hts (.constantLong RX2 37 (998244353)) (by decide +kernel)) dX2_moduloFirstTwo_24 ?_
  refine lv_lload hx hb dX2_moduloFirstTwo_27 (lv_at hl 0 rfl) ?_
  refine lv_ldc2 (own := RX2) (v := lI (47450712)) hx hb hown (hts (.constantLong RX2 39 (47450712)) (by decide +kernel)) dX2_moduloFirstTwo_29 ?_
  refine lv_lmul hx hb dX2_moduloFirstTwo_32 ?_
  refine W.eq (congrArg (fun z => F0 m _ ls (.long z :: _)) (show lI (((R1 i).toInt) - ((R0 i).toInt)) * lI 47450712 = lI ((((R1 i).toInt) - ((R0 i).toInt)) * 47450712) from lI_mul (((R1 i).toInt) - ((R0 i).toInt)) 47450712)) ?_
  refine lv_ldc (own := RX2) (v := 167772161) hx hb hown (hts (.constant RX2 41 167772161) (by decide +kernel)) dX2_moduloFirstTwo_33 ?_
  refine W.eq (g2 := F0 m 35 ls [.int (nI 167772161), .long (lI ((((R1 i).toInt) - ((R0 i).toInt)) * 47450712)), .long (lI 998244353), .long (lI ((R0 i).toInt))]) rfl ?_
  have hPc := hP.sub (ws' := []) [] rfl
  have hDc := hD.sub (ws' := []) [] (by decide) rfl
  have hKc := hK.sub (tys' := []) [] rfl
  have hFc := va_free (wc := []) hD hS hA [] rfl
  refine va_calll (va_runS (As := [.long (lI ((((R1 i).toInt) - ((R0 i).toInt)) * 47450712)), .int (nI 167772161)]) (rest := [.long (lI 998244353), .long (lI ((R0 i).toInt))]) ⟨hx, hb, hml, hown, hts⟩ (c_X1_remainder l dC dI ((((R1 i).toInt) - ((R0 i).toInt)) * 47450712) 167772161 H.size (by omega) (by omega) (by omega) (by omega)) (va_cwS 2 hts gX2_moduloFirstTwo_X1_remainder rfl rfl rfl (by decide +kernel) ⟨Nat.le_of_ble_eq_true rfl, Nat.le_of_ble_eq_true rfl⟩) ⟨fun a U g mk q => by obtain ⟨q0, q1, qP, qK, qD⟩ := q; exact ⟨q0, q1, qP, va_K.moved (u := U) (U := U.calling g mk a) (Vm.Alike.refl U.vm) qK, qD⟩, fun U hU hW => ⟨rfl, by rw [hU], by rw [hU]; exact hPc, va_K.moved hW.alike hKc, hDc.weaken (fun _ _ _ _ => trivial)⟩⟩ rfl rfl hl.1 rfl (lv_room (Nat.le_of_ble_eq_true rfl)) dX2_moduloFirstTwo_35 ⟨Nat.le_of_ble_eq_true rfl, Nat.le_of_ble_eq_true rfl⟩) hS (fun q _ h => hFc q h) hFc (fun r9 u9 t9 H1 locs ht hvm hw hB hz1 hk1 hS => ?_)
  obtain ⟨hP1, hD1⟩ := hB
  rw [ht] at hP1
  try dsimp only at hw
  obtain ⟨hP, hD⟩ := va_join (wr := [(sm, .inr (1, [.ref so])), (so, .inl (cO, 3, .inr (.inr (.inr (.inr g))))), (r0, .inl (cI, M, .inl R0)), (r1, .inl (cI, M, .inl R1)), (r2, .inl (cI, M, .inl R2))]) (w1 := []) hP hD [] [0, 1, 2, 3, 4] rfl rfl (by decide) (by decide) hk1 hFc hP1 hD1
  generalize H1 = H at hP hS ⊢
  have hP : va_P (dC, dI) vwCl [(sm, .inr (1, [.ref so])), (so, .inl (cO, 3, .inr (.inr (.inr (.inr g))))), (r0, .inl (cI, M, .inl R0)), (r1, .inl (cI, M, .inl R1)), (r2, .inl (cI, M, .inl R2))] H := hP
  have hD : va_D A [(sm, .inr (1, [.ref so])), (so, .inl (cO, 3, .inr (.inr (.inr (.inr g))))), (r0, .inl (cI, M, .inl R0)), (r1, .inl (cI, M, .inl R1)), (r2, .inl (cI, M, .inl R2))] := hD
  clear hPc hDc hKc hFc hP1 hD1 hk1 hz1 hvm ht
  subst hw
  refine lv_lmul hx hb dX2_moduloFirstTwo_38 ?_
  refine W.eq (congrArg (fun z => F0 m _ ls (.long z :: _)) (show lI 998244353 * lI (((((R1 i).toInt) - ((R0 i).toInt)) * 47450712) % (167772161 : Int)) = lI (998244353 * (((((R1 i).toInt) - ((R0 i).toInt)) * 47450712) % (167772161 : Int))) from lI_mul 998244353 (((((R1 i).toInt) - ((R0 i).toInt)) * 47450712) % (167772161 : Int)))) ?_
  refine lv_ladd hx hb dX2_moduloFirstTwo_39 ?_
  refine W.eq (congrArg (fun z => F0 m _ ls (.long z :: _)) (show lI ((R0 i).toInt) + lI (998244353 * (((((R1 i).toInt) - ((R0 i).toInt)) * 47450712) % (167772161 : Int))) = lI (((R0 i).toInt) + (998244353 * (((((R1 i).toInt) - ((R0 i).toInt)) * 47450712) % (167772161 : Int)))) from lI_add ((R0 i).toInt) (998244353 * (((((R1 i).toInt) - ((R0 i).toInt)) * 47450712) % (167772161 : Int))))) ?_
  have hP9 : va_P (dC, dI) vwCl [(sm, .inr (1, [.ref so])), (so, .inl (cO, 3, .inr (.inr (.inr (.inr g))))), (r0, .inl (cI, M, .inl R0)), (r1, .inl (cI, M, .inl R1)), (r2, .inl (cI, M, .inl R2))] H := hP.sub [0, 1, 2, 3, 4] rfl
  have hD9 : va_D A [(sm, .inr (1, [.ref so])), (so, .inl (cO, 3, .inr (.inr (.inr (.inr g))))), (r0, .inl (cI, M, .inl R0)), (r1, .inl (cI, M, .inl R1)), (r2, .inl (cI, M, .inl R2))] := hD.sub [0, 1, 2, 3, 4] (by decide) rfl
  exact W.lret (v := lI (((R0 i).toInt) + (998244353 * (((((R1 i).toInt) - ((R0 i).toInt)) * 47450712) % (167772161 : Int))))) hx hb hr (fun t ht hW => ⟨⟨lI (((R0 i).toInt) + (998244353 * (((((R1 i).toInt) - ((R0 i).toInt)) * 47450712) % (167772161 : Int)))), (), rfl, rfl, by rw [ht]; exact hP9, hD9⟩, hS.F ht⟩) hS.2.2 dX2_moduloFirstTwo_40

abbrev q_X2_timesOfFirstTwo (dC : Nat → ClassId) (dI : Nat → Nat → Nat) (cI cO : ClassId) (sm so r0 r1 r2 : Nat) (g : Nat → Option Nat) (R0 R1 R2 : Nat → Int32) (M i : Nat) (z : Int) (A : Nat → Prop) : Array Value → State → Outcome → State → Prop := va_Ql (fun (r : Int64) (u : Unit) => r = lI (tft (R2 i).toInt z)) (fun u t => va_P (dC, dI) vwCl [(sm, .inr (1, [.ref so])), (so, .inl (cO, 3, .inr (.inr (.inr (.inr g))))), (r0, .inl (cI, M, .inl R0)), (r1, .inl (cI, M, .inl R1)), (r2, .inl (cI, M, .inl R2))] t.heap ∧ va_D A [(sm, .inr (1, [.ref so])), (so, .inl (cO, 3, .inr (.inr (.inr (.inr g))))), (r0, .inl (cI, M, .inl R0)), (r1, .inl (cI, M, .inl R1)), (r2, .inl (cI, M, .inl R2))]) A
set_option maxHeartbeats 4000000 in
set_option maxRecDepth 100000 in
theorem c_X2_timesOfFirstTwo (l : Launch) (dC : Nat → ClassId) (dI : Nat → Nat → Nat) (cI cO : ClassId) (sm so r0 r1 r2 : Nat) (g : Nat → Option Nat) (R0 R1 R2 : Nat → Int32) (M i : Nat) (z : Int) (sz : Nat) (hg0 : g 0 = some r0) (hg1 : g 1 = some r1) (hg2 : g 2 = some r2) (hi : i < M) (hM : M ≤ 512) (hz0 : -2 ^ 31 ≤ z) (hz1 : z < 2 ^ 58) : Met l yX2_timesOfFirstTwo wsX2_timesOfFirstTwo ({ frames := 1, cells := 0, slots := 0, locals := 24 }) (va_Pc [.ref sm, .int (nI i), .long (lI z)] (fun U => U.heap.size = sz ∧ va_P (dC, dI) vwCl [(sm, .inr (1, [.ref so])), (so, .inl (cO, 3, .inr (.inr (.inr (.inr g))))), (r0, .inl (cI, M, .inl R0)), (r1, .inl (cI, M, .inl R1)), (r2, .inl (cI, M, .inl R2))] U.heap ∧ va_K (dC, dI) vwCl [(cI, .int), (cO, .array .int)] U ∧ va_D (fun _ => True) [(sm, .inr (1, [.ref so])), (so, .inl (cO, 3, .inr (.inr (.inr (.inr g))))), (r0, .inl (cI, M, .inl R0)), (r1, .inl (cI, M, .inl R1)), (r2, .inl (cI, M, .inl R2))])) (q_X2_timesOfFirstTwo dC dI cI cO sm so r0 r1 r2 g R0 R1 R2 M i z (va_A [(sm, .inr (1, [.ref so])), (so, .inl (cO, 3, .inr (.inr (.inr (.inr g))))), (r0, .inl (cI, M, .inl R0)), (r1, .inl (cI, M, .inl R1)), (r2, .inl (cI, M, .inl R2))] sz)) 0 0 (va_A [(sm, .inr (1, [.ref so])), (so, .inl (cO, 3, .inr (.inr (.inr (.inr g))))), (r0, .inl (cI, M, .inl R0)), (r1, .inl (cI, M, .inl R1)), (r2, .inl (cI, M, .inl R2))] sz) := by
  refine Met.ofW (cc := cX2_timesOfFirstTwo) (maxL := 8) (ret := (some .long)) (by decide) rfl ?_
  intro p e s m args below meth c s₁ B hml hv
  obtain ⟨rfl, hsz, hP, hK, hD0⟩ := hv
  have hx := B.exec
  have hb := B.bytes
  have hr := B.returns
  have hts := atoms_spec (ws := wsX2_timesOfFirstTwo) B.pre
  have hown : s.vm.findClass RX2 = some m.cls := findClass_of_methodNamed B.named
  have hlocks := B.notSynchronized
  subst hsz
  have hD := hD0.self (sz := s.heap.size)
  generalize hAe : va_A [(sm, .inr (1, [.ref so])), (so, .inl (cO, 3, .inr (.inr (.inr (.inr g))))), (r0, .inl (cI, M, .inl R0)), (r1, .inl (cI, M, .inl R1)), (r2, .inl (cI, M, .inl R2))] s.heap.size = A at hD ⊢
  have hA : ∀ q : Nat, s.heap.size ≤ q → A q := fun q h => by rw [← hAe]; exact Or.inr h
  have hS : va_S A s.heap s.heap [] := va_S.rf
  have hP : va_P (dC, dI) vwCl [(sm, .inr (1, [.ref so])), (so, .inl (cO, 3, .inr (.inr (.inr (.inr g))))), (r0, .inl (cI, M, .inl R0)), (r1, .inl (cI, M, .inl R1)), (r2, .inl (cI, M, .inl R2))] s.heap := hP
  have hl := lv_entry (([.ref sm, .int (nI i), .long (lI z)] : List Value)) (n := 8) (Nat.le_of_ble_eq_true rfl)
  rw [lg_entry_eq]
  generalize (lg_sl (([.ref sm, .int (nI i), .long (lI z)] : List Value)) ++ List.replicate (8 - (lg_sl (([.ref sm, .int (nI i), .long (lI z)] : List Value))).length) Slot.unset).toArray = ls at hl ⊢
  have hl : lv_has ls 8 [(0, .ref sm), (1, .int (nI i)), (2, .long (lI z))] := hl
  obtain ⟨H, hHe⟩ : ∃ H : Heap, H = s.heap := ⟨_, rfl⟩
  rw [← hHe] at hP
  have hS : va_S A s.heap H [] := by rw [hHe]; exact hS
  obtain ⟨locs, hlo⟩ : ∃ L : List Loc, L = [] := ⟨_, rfl⟩
  rw [← hlo] at hS ⊢
  rw [← hHe]
  have h2 := i32b (R2 i)
  have ht1 := Int.tmod_lt_of_pos ((R2 i).toInt - z) (show (0 : Int) < 469762049 by omega)
  have ht2 : -(469762049 : Int) < ((R2 i).toInt - z).tmod 469762049 := by have h := Int.emod_nonneg ((R2 i).toInt - z) (show (469762049 : Int) ≠ 0 by omega); rw [Int.tmod_eq_emod]; split <;> omega
  have ht3 := emod_rng (((R2 i).toInt - z).tmod 469762049 * 115990628) (show (0 : Int) < 469762049 by omega)
  refine lv_aload_n hx hb dX2_timesOfFirstTwo_0 rfl (lv_at hl 0 rfl) ?_
  refine va_get (D := (dC, dI)) (ci := 1) (v := .ref so) (C := RX2) (T := TX2) (N := 1) hx hb hts (by decide +kernel) hown hK hP 0 rfl rfl 0 (by decide) (hts (.fieldLink RX2 15 "ThreePrimes$Sums" "remainders" "[[I") (by decide +kernel)) (fun _ h9 => h9) rfl dX2_timesOfFirstTwo_1 ?_
  refine lv_iconst (v := nI 2) hx hb dX2_timesOfFirstTwo_4 (by decide) ?_
  refine zz_aldA hx hb hK hP 1 1 rfl rfl (vp_in_nI (by omega) (by omega)) dX2_timesOfFirstTwo_5 ?_
  refine W.eq (g2 := F0 m _ ls [.ref r2]) (by rw [nI_clamp (by omega), hg2]; rfl) ?_
  refine lv_iload_n hx hb dX2_timesOfFirstTwo_6 rfl (lv_at hl 1 rfl) ?_
  refine va_iald hx hb hK hP 4 0 rfl rfl (vp_in_nI (by omega) (by omega)) dX2_timesOfFirstTwo_7 ?_
  refine W.eq (g2 := F0 m _ ls [.int (R2 i)]) (by rw [nI_clamp (by omega)]) ?_
  refine lv_i2l (v := lI ((R2 i).toInt)) hx hb dX2_timesOfFirstTwo_8 (i2l_I (R2 i)) ?_
  refine lv_lload_n hx hb dX2_timesOfFirstTwo_9 rfl (lv_at hl 2 rfl) ?_
  refine lv_lsub hx hb dX2_timesOfFirstTwo_10 ?_
  refine W.eq (congrArg (fun z => F0 m _ ls (.long z :: _)) (show lI ((R2 i).toInt) - lI z = lI (((R2 i).toInt) - z) from lI_sub ((R2 i).toInt) z)) ?_
  refine lv_ldc2 (own := RX2) (v := lI (469762049)) hx hb hown (hts (.constantLong RX2 48 (469762049)) (by decide +kernel)) dX2_timesOfFirstTwo_11 ?_
  refine lv_lrem hx hb dX2_timesOfFirstTwo_14 (fun zq9 => absurd ((lI_eq (b := 0) (by omega) (by omega) (by omega) (by omega)).mp zq9) (by omega)) ?_
  refine W.eq (congrArg (fun z => F0 m _ ls (.long z :: _)) (show lI (((R2 i).toInt) - z) - lI (((R2 i).toInt) - z) / lI 469762049 * lI 469762049 = lI ((((R2 i).toInt) - z).tmod 469762049) from lI_rem (by omega) (by omega) (by omega) (by omega))) ?_
  refine lv_lstore (lv' := [(4, .long (lI ((((R2 i).toInt) - z).tmod 469762049))), (0, .ref sm), (1, .int (nI i)), (2, .long (lI z))]) hx hb dX2_timesOfFirstTwo_15 hl (by decide) rfl (fun ls hl => ?_)
  refine lv_lload hx hb dX2_timesOfFirstTwo_17 (lv_at hl 0 rfl) ?_
  refine lv_ldc2 (own := RX2) (v := lI (115990628)) hx hb hown (hts (.constantLong RX2 50 (115990628)) (by decide +kernel)) dX2_timesOfFirstTwo_19 ?_
  refine lv_lmul hx hb dX2_timesOfFirstTwo_22 ?_
  refine W.eq (congrArg (fun z => F0 m _ ls (.long z :: _)) (show lI ((((R2 i).toInt) - z).tmod 469762049) * lI 115990628 = lI (((((R2 i).toInt) - z).tmod 469762049) * 115990628) from lI_mul ((((R2 i).toInt) - z).tmod 469762049) 115990628)) ?_
  refine lv_ldc (own := RX2) (v := 469762049) hx hb hown (hts (.constant RX2 52 469762049) (by decide +kernel)) dX2_timesOfFirstTwo_23 ?_
  refine W.eq (g2 := F0 m 25 ls [.int (nI 469762049), .long (lI (((((R2 i).toInt) - z).tmod 469762049) * 115990628))]) rfl ?_
  have hPc := hP.sub (ws' := []) [] rfl
  have hDc := hD.sub (ws' := []) [] (by decide) rfl
  have hKc := hK.sub (tys' := []) [] rfl
  have hFc := va_free (wc := []) hD hS hA [] rfl
  refine va_calll (va_runS (As := [.long (lI (((((R2 i).toInt) - z).tmod 469762049) * 115990628)), .int (nI 469762049)]) (rest := []) ⟨hx, hb, hml, hown, hts⟩ (c_X1_remainder l dC dI (((((R2 i).toInt) - z).tmod 469762049) * 115990628) 469762049 H.size (by omega) (by omega) (by omega) (by omega)) (va_cwS 2 hts gX2_timesOfFirstTwo_X1_remainder rfl rfl rfl (by decide +kernel) ⟨Nat.le_of_ble_eq_true rfl, Nat.le_of_ble_eq_true rfl⟩) ⟨fun a U g mk q => by obtain ⟨q0, q1, qP, qK, qD⟩ := q; exact ⟨q0, q1, qP, va_K.moved (u := U) (U := U.calling g mk a) (Vm.Alike.refl U.vm) qK, qD⟩, fun U hU hW => ⟨rfl, by rw [hU], by rw [hU]; exact hPc, va_K.moved hW.alike hKc, hDc.weaken (fun _ _ _ _ => trivial)⟩⟩ rfl rfl hl.1 rfl (lv_room (Nat.le_of_ble_eq_true rfl)) dX2_timesOfFirstTwo_25 ⟨Nat.le_of_ble_eq_true rfl, Nat.le_of_ble_eq_true rfl⟩) hS (fun q _ h => hFc q h) hFc (fun r9 u9 t9 H1 locs ht hvm hw hB hz1 hk1 hS => ?_)
  obtain ⟨hP1, hD1⟩ := hB
  rw [ht] at hP1
  try dsimp only at hw
  obtain ⟨hP, hD⟩ := va_join (wr := [(sm, .inr (1, [.ref so])), (so, .inl (cO, 3, .inr (.inr (.inr (.inr g))))), (r0, .inl (cI, M, .inl R0)), (r1, .inl (cI, M, .inl R1)), (r2, .inl (cI, M, .inl R2))]) (w1 := []) hP hD [] [0, 1, 2, 3, 4] rfl rfl (by decide) (by decide) hk1 hFc hP1 hD1
  generalize H1 = H at hP hS ⊢
  have hP : va_P (dC, dI) vwCl [(sm, .inr (1, [.ref so])), (so, .inl (cO, 3, .inr (.inr (.inr (.inr g))))), (r0, .inl (cI, M, .inl R0)), (r1, .inl (cI, M, .inl R1)), (r2, .inl (cI, M, .inl R2))] H := hP
  have hD : va_D A [(sm, .inr (1, [.ref so])), (so, .inl (cO, 3, .inr (.inr (.inr (.inr g))))), (r0, .inl (cI, M, .inl R0)), (r1, .inl (cI, M, .inl R1)), (r2, .inl (cI, M, .inl R2))] := hD
  clear hPc hDc hKc hFc hP1 hD1 hk1 hz1 hvm ht
  subst hw
  refine lv_lstore (lv' := [(6, .long (lI ((((((R2 i).toInt) - z).tmod 469762049) * 115990628) % (469762049 : Int)))), (4, .long (lI ((((R2 i).toInt) - z).tmod 469762049))), (0, .ref sm), (1, .int (nI i)), (2, .long (lI z))]) hx hb dX2_timesOfFirstTwo_28 hl (by decide) rfl (fun ls hl => ?_)
  refine lv_lload hx hb dX2_timesOfFirstTwo_30 (lv_at hl 0 rfl) ?_
  refine lv_ldc2 (own := RX2) (v := lI (234881024)) hx hb hown (hts (.constantLong RX2 53 (234881024)) (by decide +kernel)) dX2_timesOfFirstTwo_32 ?_
  refine W.lcmp hx hb dX2_timesOfFirstTwo_35 ?_
  refine lv_if_le (tgt := 48) hx hb dX2_timesOfFirstTwo_36 (by decide) (fun c_1 => ?_) (fun c_1 => ?_)
  · have c_1 : ((((((R2 i).toInt) - z).tmod 469762049) * 115990628) % (469762049 : Int)) ≤ 234881024 := ((lg_cmp_le _ _).trans (lI_le (a := (((((R2 i).toInt) - z).tmod 469762049) * 115990628) % (469762049 : Int)) (b := 234881024) (by omega) (by omega) (by omega) (by omega))).mp c_1
    refine lv_lload hx hb dX2_timesOfFirstTwo_48 (lv_at hl 0 rfl) ?_
    have hP9 : va_P (dC, dI) vwCl [(sm, .inr (1, [.ref so])), (so, .inl (cO, 3, .inr (.inr (.inr (.inr g))))), (r0, .inl (cI, M, .inl R0)), (r1, .inl (cI, M, .inl R1)), (r2, .inl (cI, M, .inl R2))] H := hP.sub [0, 1, 2, 3, 4] rfl
    have hD9 : va_D A [(sm, .inr (1, [.ref so])), (so, .inl (cO, 3, .inr (.inr (.inr (.inr g))))), (r0, .inl (cI, M, .inl R0)), (r1, .inl (cI, M, .inl R1)), (r2, .inl (cI, M, .inl R2))] := hD.sub [0, 1, 2, 3, 4] (by decide) rfl
    exact W.lret (v := lI ((((((R2 i).toInt) - z).tmod 469762049) * 115990628) % (469762049 : Int))) hx hb hr (fun t ht hW => ⟨⟨lI ((((((R2 i).toInt) - z).tmod 469762049) * 115990628) % (469762049 : Int)), (), rfl, by unfold tft; rw [if_neg (by omega)], by rw [ht]; exact hP9, hD9⟩, hS.F ht⟩) hS.2.2 dX2_timesOfFirstTwo_50
  · have c_1 : ¬ (((((((R2 i).toInt) - z).tmod 469762049) * 115990628) % (469762049 : Int)) ≤ 234881024) := fun zq9 => c_1 (((lg_cmp_le _ _).trans (lI_le (a := (((((R2 i).toInt) - z).tmod 469762049) * 115990628) % (469762049 : Int)) (b := 234881024) (by omega) (by omega) (by omega) (by omega))).mpr zq9)
    refine lv_lload hx hb dX2_timesOfFirstTwo_39 (lv_at hl 0 rfl) ?_
    refine lv_ldc2 (own := RX2) (v := lI (469762049)) hx hb hown (hts (.constantLong RX2 48 (469762049)) (by decide +kernel)) dX2_timesOfFirstTwo_41 ?_
    refine lv_lsub hx hb dX2_timesOfFirstTwo_44 ?_
    refine W.eq (congrArg (fun z => F0 m _ ls (.long z :: _)) (show lI ((((((R2 i).toInt) - z).tmod 469762049) * 115990628) % (469762049 : Int)) - lI 469762049 = lI (((((((R2 i).toInt) - z).tmod 469762049) * 115990628) % (469762049 : Int)) - 469762049) from lI_sub ((((((R2 i).toInt) - z).tmod 469762049) * 115990628) % (469762049 : Int)) 469762049)) ?_
    refine lv_goto (tgt := 50) hx hb dX2_timesOfFirstTwo_45 (by decide) ?_
    have hP9 : va_P (dC, dI) vwCl [(sm, .inr (1, [.ref so])), (so, .inl (cO, 3, .inr (.inr (.inr (.inr g))))), (r0, .inl (cI, M, .inl R0)), (r1, .inl (cI, M, .inl R1)), (r2, .inl (cI, M, .inl R2))] H := hP.sub [0, 1, 2, 3, 4] rfl
    have hD9 : va_D A [(sm, .inr (1, [.ref so])), (so, .inl (cO, 3, .inr (.inr (.inr (.inr g))))), (r0, .inl (cI, M, .inl R0)), (r1, .inl (cI, M, .inl R1)), (r2, .inl (cI, M, .inl R2))] := hD.sub [0, 1, 2, 3, 4] (by decide) rfl
    exact W.lret (v := lI (((((((R2 i).toInt) - z).tmod 469762049) * 115990628) % (469762049 : Int)) - 469762049)) hx hb hr (fun t ht hW => ⟨⟨lI (((((((R2 i).toInt) - z).tmod 469762049) * 115990628) % (469762049 : Int)) - 469762049), (), rfl, by unfold tft; rw [if_pos (by omega)], by rw [ht]; exact hP9, hD9⟩, hS.F ht⟩) hS.2.2 dX2_timesOfFirstTwo_50

abbrev q_X2_lowest64Bits (dC : Nat → ClassId) (dI : Nat → Nat → Nat) (cI cO : ClassId) (sm so r0 r1 r2 : Nat) (g : Nat → Option Nat) (R0 R1 R2 : Nat → Int32) (M i : Nat) (A : Nat → Prop) : Array Value → State → Outcome → State → Prop := va_Ql (fun (r : Int64) (u : Unit) => r = lI (lowZ (R0 i).toInt (R1 i).toInt (R2 i).toInt)) (fun u t => va_P (dC, dI) vwCl [(sm, .inr (1, [.ref so])), (so, .inl (cO, 3, .inr (.inr (.inr (.inr g))))), (r0, .inl (cI, M, .inl R0)), (r1, .inl (cI, M, .inl R1)), (r2, .inl (cI, M, .inl R2))] t.heap ∧ va_D A [(sm, .inr (1, [.ref so])), (so, .inl (cO, 3, .inr (.inr (.inr (.inr g))))), (r0, .inl (cI, M, .inl R0)), (r1, .inl (cI, M, .inl R1)), (r2, .inl (cI, M, .inl R2))]) A
set_option maxHeartbeats 4000000 in
set_option maxRecDepth 100000 in
theorem c_X2_lowest64Bits (l : Launch) (dC : Nat → ClassId) (dI : Nat → Nat → Nat) (cI cO : ClassId) (sm so r0 r1 r2 : Nat) (g : Nat → Option Nat) (R0 R1 R2 : Nat → Int32) (M i : Nat) (sz : Nat) (hg0 : g 0 = some r0) (hg1 : g 1 = some r1) (hg2 : g 2 = some r2) (hi : i < M) (hM : M ≤ 512) : Met l yX2_lowest64Bits wsX2_lowest64Bits ({ frames := 2, cells := 0, slots := 0, locals := 51 }) (va_Pc [.ref sm, .int (nI i)] (fun U => U.heap.size = sz ∧ va_P (dC, dI) vwCl [(sm, .inr (1, [.ref so])), (so, .inl (cO, 3, .inr (.inr (.inr (.inr g))))), (r0, .inl (cI, M, .inl R0)), (r1, .inl (cI, M, .inl R1)), (r2, .inl (cI, M, .inl R2))] U.heap ∧ va_K (dC, dI) vwCl [(cI, .int), (cO, .array .int)] U ∧ va_D (fun _ => True) [(sm, .inr (1, [.ref so])), (so, .inl (cO, 3, .inr (.inr (.inr (.inr g))))), (r0, .inl (cI, M, .inl R0)), (r1, .inl (cI, M, .inl R1)), (r2, .inl (cI, M, .inl R2))])) (q_X2_lowest64Bits dC dI cI cO sm so r0 r1 r2 g R0 R1 R2 M i (va_A [(sm, .inr (1, [.ref so])), (so, .inl (cO, 3, .inr (.inr (.inr (.inr g))))), (r0, .inl (cI, M, .inl R0)), (r1, .inl (cI, M, .inl R1)), (r2, .inl (cI, M, .inl R2))] sz)) 0 0 (va_A [(sm, .inr (1, [.ref so])), (so, .inl (cO, 3, .inr (.inr (.inr (.inr g))))), (r0, .inl (cI, M, .inl R0)), (r1, .inl (cI, M, .inl R1)), (r2, .inl (cI, M, .inl R2))] sz) := by
  refine Met.ofW (cc := cX2_lowest64Bits) (maxL := 4) (ret := (some .long)) (by decide) rfl ?_
  intro p e s m args below meth c s₁ B hml hv
  obtain ⟨rfl, hsz, hP, hK, hD0⟩ := hv
  have hx := B.exec
  have hb := B.bytes
  have hr := B.returns
  have hts := atoms_spec (ws := wsX2_lowest64Bits) B.pre
  have hown : s.vm.findClass RX2 = some m.cls := findClass_of_methodNamed B.named
  have hlocks := B.notSynchronized
  subst hsz
  have hD := hD0.self (sz := s.heap.size)
  generalize hAe : va_A [(sm, .inr (1, [.ref so])), (so, .inl (cO, 3, .inr (.inr (.inr (.inr g))))), (r0, .inl (cI, M, .inl R0)), (r1, .inl (cI, M, .inl R1)), (r2, .inl (cI, M, .inl R2))] s.heap.size = A at hD ⊢
  have hA : ∀ q : Nat, s.heap.size ≤ q → A q := fun q h => by rw [← hAe]; exact Or.inr h
  have hS : va_S A s.heap s.heap [] := va_S.rf
  have hP : va_P (dC, dI) vwCl [(sm, .inr (1, [.ref so])), (so, .inl (cO, 3, .inr (.inr (.inr (.inr g))))), (r0, .inl (cI, M, .inl R0)), (r1, .inl (cI, M, .inl R1)), (r2, .inl (cI, M, .inl R2))] s.heap := hP
  have hl := lv_entry (([.ref sm, .int (nI i)] : List Value)) (n := 4) (Nat.le_of_ble_eq_true rfl)
  rw [lg_entry_eq]
  generalize (lg_sl (([.ref sm, .int (nI i)] : List Value)) ++ List.replicate (4 - (lg_sl (([.ref sm, .int (nI i)] : List Value))).length) Slot.unset).toArray = ls at hl ⊢
  have hl : lv_has ls 4 [(0, .ref sm), (1, .int (nI i))] := hl
  obtain ⟨H, hHe⟩ : ∃ H : Heap, H = s.heap := ⟨_, rfl⟩
  rw [← hHe] at hP
  have hS : va_S A s.heap H [] := by rw [hHe]; exact hS
  obtain ⟨locs, hlo⟩ : ∃ L : List Loc, L = [] := ⟨_, rfl⟩
  rw [← hlo] at hS ⊢
  rw [← hHe]
  have hm := mft_b (R0 i) (R1 i)
  refine lv_aload_n hx hb dX2_lowest64Bits_0 rfl (lv_at hl 0 rfl) ?_
  refine lv_iload_n hx hb dX2_lowest64Bits_1 rfl (lv_at hl 1 rfl) ?_
  have hPc := hP.sub (ws' := [(sm, .inr (1, [.ref so])), (so, .inl (cO, 3, .inr (.inr (.inr (.inr g))))), (r0, .inl (cI, M, .inl R0)), (r1, .inl (cI, M, .inl R1)), (r2, .inl (cI, M, .inl R2))]) [0, 1, 2, 3, 4] rfl
  have hDc := hD.sub (ws' := [(sm, .inr (1, [.ref so])), (so, .inl (cO, 3, .inr (.inr (.inr (.inr g))))), (r0, .inl (cI, M, .inl R0)), (r1, .inl (cI, M, .inl R1)), (r2, .inl (cI, M, .inl R2))]) [0, 1, 2, 3, 4] (by decide) rfl
  have hKc := hK.sub (tys' := [(cI, .int), (cO, .array .int)]) [0, 1] rfl
  have hFc := va_free (wc := [(sm, .inr (1, [.ref so])), (so, .inl (cO, 3, .inr (.inr (.inr (.inr g))))), (r0, .inl (cI, M, .inl R0)), (r1, .inl (cI, M, .inl R1)), (r2, .inl (cI, M, .inl R2))]) hD hS hA [0, 1, 2, 3, 4] rfl
  refine va_calll (va_runV (As := [.int (nI i)]) (rest := []) ⟨hx, hb, hml, hown, hts⟩ (c_X2_moduloFirstTwo l dC dI cI cO sm so r0 r1 r2 g R0 R1 R2 M  i  H.size hg0 hg1 hg2 (by omega) (by omega)) (cwV 1 hts gX2_lowest64Bits_X2_moduloFirstTwo rfl rfl rfl (by decide +kernel) ⟨Nat.le_of_ble_eq_true rfl, Nat.le_of_ble_eq_true rfl⟩) ⟨fun a U g mk q => by obtain ⟨q0, q1, qP, qK, qD⟩ := q; exact ⟨q0, q1, qP, va_K.moved (u := U) (U := U.calling g mk a) (Vm.Alike.refl U.vm) qK, qD⟩, va_recv hKc hPc (ci := 1) (q0 := 0) rfl rfl, fun U hU hW => ⟨rfl, by rw [hU], by rw [hU]; exact hPc, va_K.moved hW.alike hKc, hDc.weaken (fun _ _ _ _ => trivial)⟩⟩ rfl rfl hl.1 rfl (lv_room (Nat.le_of_ble_eq_true rfl)) dX2_lowest64Bits_2 ⟨Nat.le_of_ble_eq_true rfl, Nat.le_of_ble_eq_true rfl⟩) hS (fun q _ h => hFc q h) hFc (fun r9 u9 t9 H1 locs ht hvm hw hB hz1 hk1 hS => ?_)
  obtain ⟨hP1, hD1⟩ := hB
  rw [ht] at hP1
  try dsimp only at hw
  obtain ⟨hP, hD⟩ := va_join (wr := []) (w1 := [(sm, .inr (1, [.ref so])), (so, .inl (cO, 3, .inr (.inr (.inr (.inr g))))), (r0, .inl (cI, M, .inl R0)), (r1, .inl (cI, M, .inl R1)), (r2, .inl (cI, M, .inl R2))]) hP hD [0, 1, 2, 3, 4] [] rfl rfl (by decide) (by decide) hk1 hFc hP1 hD1
  generalize H1 = H at hP hS ⊢
  have hP : va_P (dC, dI) vwCl [(sm, .inr (1, [.ref so])), (so, .inl (cO, 3, .inr (.inr (.inr (.inr g))))), (r0, .inl (cI, M, .inl R0)), (r1, .inl (cI, M, .inl R1)), (r2, .inl (cI, M, .inl R2))] H := hP
  have hD : va_D A [(sm, .inr (1, [.ref so])), (so, .inl (cO, 3, .inr (.inr (.inr (.inr g))))), (r0, .inl (cI, M, .inl R0)), (r1, .inl (cI, M, .inl R1)), (r2, .inl (cI, M, .inl R2))] := hD
  clear hPc hDc hKc hFc hP1 hD1 hk1 hz1 hvm ht
  subst hw
  refine lv_lstore_n (lv' := [(2, .long (lI (mft (R0 i).toInt (R1 i).toInt))), (0, .ref sm), (1, .int (nI i))]) hx hb dX2_lowest64Bits_5 rfl hl (by decide) rfl (fun ls hl => ?_)
  refine lv_lload_n hx hb dX2_lowest64Bits_6 rfl (lv_at hl 0 rfl) ?_
  refine lv_ldc2 (own := RX2) (v := lI (167477612308856833)) hx hb hown (hts (.constantLong RX2 27 (167477612308856833)) (by decide +kernel)) dX2_lowest64Bits_7 ?_
  refine lv_aload_n hx hb dX2_lowest64Bits_10 rfl (lv_at hl 1 rfl) ?_
  refine lv_iload_n hx hb dX2_lowest64Bits_11 rfl (lv_at hl 2 rfl) ?_
  refine lv_lload_n hx hb dX2_lowest64Bits_12 rfl (lv_at hl 0 rfl) ?_
  have hPc := hP.sub (ws' := [(sm, .inr (1, [.ref so])), (so, .inl (cO, 3, .inr (.inr (.inr (.inr g))))), (r0, .inl (cI, M, .inl R0)), (r1, .inl (cI, M, .inl R1)), (r2, .inl (cI, M, .inl R2))]) [0, 1, 2, 3, 4] rfl
  have hDc := hD.sub (ws' := [(sm, .inr (1, [.ref so])), (so, .inl (cO, 3, .inr (.inr (.inr (.inr g))))), (r0, .inl (cI, M, .inl R0)), (r1, .inl (cI, M, .inl R1)), (r2, .inl (cI, M, .inl R2))]) [0, 1, 2, 3, 4] (by decide) rfl
  have hKc := hK.sub (tys' := [(cI, .int), (cO, .array .int)]) [0, 1] rfl
  have hFc := va_free (wc := [(sm, .inr (1, [.ref so])), (so, .inl (cO, 3, .inr (.inr (.inr (.inr g))))), (r0, .inl (cI, M, .inl R0)), (r1, .inl (cI, M, .inl R1)), (r2, .inl (cI, M, .inl R2))]) hD hS hA [0, 1, 2, 3, 4] rfl
  refine va_calll (va_runV (As := [.int (nI i), .long (lI (mft (R0 i).toInt (R1 i).toInt))]) (rest := [.long (lI 167477612308856833), .long (lI (mft (R0 i).toInt (R1 i).toInt))]) ⟨hx, hb, hml, hown, hts⟩ (c_X2_timesOfFirstTwo l dC dI cI cO sm so r0 r1 r2 g R0 R1 R2 M  i (mft (R0 i).toInt (R1 i).toInt) H.size hg0 hg1 hg2 (by omega) (by omega) (by omega) (by omega)) (cwV 2 hts gX2_lowest64Bits_X2_timesOfFirstTwo rfl rfl rfl (by decide +kernel) ⟨Nat.le_of_ble_eq_true rfl, Nat.le_of_ble_eq_true rfl⟩) ⟨fun a U g mk q => by obtain ⟨q0, q1, qP, qK, qD⟩ := q; exact ⟨q0, q1, qP, va_K.moved (u := U) (U := U.calling g mk a) (Vm.Alike.refl U.vm) qK, qD⟩, va_recv hKc hPc (ci := 1) (q0 := 0) rfl rfl, fun U hU hW => ⟨rfl, by rw [hU], by rw [hU]; exact hPc, va_K.moved hW.alike hKc, hDc.weaken (fun _ _ _ _ => trivial)⟩⟩ rfl rfl hl.1 rfl (lv_room (Nat.le_of_ble_eq_true rfl)) dX2_lowest64Bits_13 ⟨Nat.le_of_ble_eq_true rfl, Nat.le_of_ble_eq_true rfl⟩) hS (fun q _ h => hFc q h) hFc (fun r9 u9 t9 H1 locs ht hvm hw hB hz1 hk1 hS => ?_)
  obtain ⟨hP1, hD1⟩ := hB
  rw [ht] at hP1
  try dsimp only at hw
  obtain ⟨hP, hD⟩ := va_join (wr := []) (w1 := [(sm, .inr (1, [.ref so])), (so, .inl (cO, 3, .inr (.inr (.inr (.inr g))))), (r0, .inl (cI, M, .inl R0)), (r1, .inl (cI, M, .inl R1)), (r2, .inl (cI, M, .inl R2))]) hP hD [0, 1, 2, 3, 4] [] rfl rfl (by decide) (by decide) hk1 hFc hP1 hD1
  generalize H1 = H at hP hS ⊢
  have hP : va_P (dC, dI) vwCl [(sm, .inr (1, [.ref so])), (so, .inl (cO, 3, .inr (.inr (.inr (.inr g))))), (r0, .inl (cI, M, .inl R0)), (r1, .inl (cI, M, .inl R1)), (r2, .inl (cI, M, .inl R2))] H := hP
  have hD : va_D A [(sm, .inr (1, [.ref so])), (so, .inl (cO, 3, .inr (.inr (.inr (.inr g))))), (r0, .inl (cI, M, .inl R0)), (r1, .inl (cI, M, .inl R1)), (r2, .inl (cI, M, .inl R2))] := hD
  clear hPc hDc hKc hFc hP1 hD1 hk1 hz1 hvm ht
  subst hw
  refine lv_lmul hx hb dX2_lowest64Bits_16 ?_
  refine W.eq (congrArg (fun z => F0 m _ ls (.long z :: _)) (show lI 167477612308856833 * lI (tft (R2 i).toInt (mft (R0 i).toInt (R1 i).toInt)) = lI (167477612308856833 * (tft (R2 i).toInt (mft (R0 i).toInt (R1 i).toInt))) from lI_mul 167477612308856833 (tft (R2 i).toInt (mft (R0 i).toInt (R1 i).toInt)))) ?_
  refine lv_ladd hx hb dX2_lowest64Bits_17 ?_
  refine W.eq (congrArg (fun z => F0 m _ ls (.long z :: _)) (show lI (mft (R0 i).toInt (R1 i).toInt) + lI (167477612308856833 * (tft (R2 i).toInt (mft (R0 i).toInt (R1 i).toInt))) = lI ((mft (R0 i).toInt (R1 i).toInt) + (167477612308856833 * (tft (R2 i).toInt (mft (R0 i).toInt (R1 i).toInt)))) from lI_add (mft (R0 i).toInt (R1 i).toInt) (167477612308856833 * (tft (R2 i).toInt (mft (R0 i).toInt (R1 i).toInt))))) ?_
  have hP9 : va_P (dC, dI) vwCl [(sm, .inr (1, [.ref so])), (so, .inl (cO, 3, .inr (.inr (.inr (.inr g))))), (r0, .inl (cI, M, .inl R0)), (r1, .inl (cI, M, .inl R1)), (r2, .inl (cI, M, .inl R2))] H := hP.sub [0, 1, 2, 3, 4] rfl
  have hD9 : va_D A [(sm, .inr (1, [.ref so])), (so, .inl (cO, 3, .inr (.inr (.inr (.inr g))))), (r0, .inl (cI, M, .inl R0)), (r1, .inl (cI, M, .inl R1)), (r2, .inl (cI, M, .inl R2))] := hD.sub [0, 1, 2, 3, 4] (by decide) rfl
  exact W.lret (v := lI ((mft (R0 i).toInt (R1 i).toInt) + (167477612308856833 * (tft (R2 i).toInt (mft (R0 i).toInt (R1 i).toInt))))) hx hb hr (fun t ht hW => ⟨⟨lI ((mft (R0 i).toInt (R1 i).toInt) + (167477612308856833 * (tft (R2 i).toInt (mft (R0 i).toInt (R1 i).toInt)))), (), rfl, rfl, by rw [ht]; exact hP9, hD9⟩, hS.F ht⟩) hS.2.2 dX2_lowest64Bits_18

abbrev q_X2_bitsAbove64 (dC : Nat → ClassId) (dI : Nat → Nat → Nat) (cI cO : ClassId) (sm so r0 r1 r2 : Nat) (g : Nat → Option Nat) (R0 R1 R2 : Nat → Int32) (M i : Nat) (A : Nat → Prop) : Array Value → State → Outcome → State → Prop := va_Qi (fun (r : Int32) (u : Unit) => r = iI (highZ (R0 i).toInt (R1 i).toInt (R2 i).toInt)) (fun u t => va_P (dC, dI) vwCl [(sm, .inr (1, [.ref so])), (so, .inl (cO, 3, .inr (.inr (.inr (.inr g))))), (r0, .inl (cI, M, .inl R0)), (r1, .inl (cI, M, .inl R1)), (r2, .inl (cI, M, .inl R2))] t.heap ∧ va_D A [(sm, .inr (1, [.ref so])), (so, .inl (cO, 3, .inr (.inr (.inr (.inr g))))), (r0, .inl (cI, M, .inl R0)), (r1, .inl (cI, M, .inl R1)), (r2, .inl (cI, M, .inl R2))]) A
set_option maxHeartbeats 4000000 in
set_option maxRecDepth 100000 in
theorem c_X2_bitsAbove64 (l : Launch) (dC : Nat → ClassId) (dI : Nat → Nat → Nat) (cI cO : ClassId) (sm so r0 r1 r2 : Nat) (g : Nat → Option Nat) (R0 R1 R2 : Nat → Int32) (M i : Nat) (sz : Nat) (hg0 : g 0 = some r0) (hg1 : g 1 = some r1) (hg2 : g 2 = some r2) (hi : i < M) (hM : M ≤ 512) : Met l yX2_bitsAbove64 wsX2_bitsAbove64 ({ frames := 2, cells := 0, slots := 0, locals := 51 }) (va_Pc [.ref sm, .int (nI i)] (fun U => U.heap.size = sz ∧ va_P (dC, dI) vwCl [(sm, .inr (1, [.ref so])), (so, .inl (cO, 3, .inr (.inr (.inr (.inr g))))), (r0, .inl (cI, M, .inl R0)), (r1, .inl (cI, M, .inl R1)), (r2, .inl (cI, M, .inl R2))] U.heap ∧ va_K (dC, dI) vwCl [(cI, .int), (cO, .array .int)] U ∧ va_D (fun _ => True) [(sm, .inr (1, [.ref so])), (so, .inl (cO, 3, .inr (.inr (.inr (.inr g))))), (r0, .inl (cI, M, .inl R0)), (r1, .inl (cI, M, .inl R1)), (r2, .inl (cI, M, .inl R2))])) (q_X2_bitsAbove64 dC dI cI cO sm so r0 r1 r2 g R0 R1 R2 M i (va_A [(sm, .inr (1, [.ref so])), (so, .inl (cO, 3, .inr (.inr (.inr (.inr g))))), (r0, .inl (cI, M, .inl R0)), (r1, .inl (cI, M, .inl R1)), (r2, .inl (cI, M, .inl R2))] sz)) 0 0 (va_A [(sm, .inr (1, [.ref so])), (so, .inl (cO, 3, .inr (.inr (.inr (.inr g))))), (r0, .inl (cI, M, .inl R0)), (r1, .inl (cI, M, .inl R1)), (r2, .inl (cI, M, .inl R2))] sz) := by
  refine Met.ofW (cc := cX2_bitsAbove64) (maxL := 10) (ret := (some .int)) (by decide) rfl ?_
  intro p e s m args below meth c s₁ B hml hv
  obtain ⟨rfl, hsz, hP, hK, hD0⟩ := hv
  have hx := B.exec
  have hb := B.bytes
  have hr := B.returns
  have hts := atoms_spec (ws := wsX2_bitsAbove64) B.pre
  have hown : s.vm.findClass RX2 = some m.cls := findClass_of_methodNamed B.named
  have hlocks := B.notSynchronized
  subst hsz
  have hD := hD0.self (sz := s.heap.size)
  generalize hAe : va_A [(sm, .inr (1, [.ref so])), (so, .inl (cO, 3, .inr (.inr (.inr (.inr g))))), (r0, .inl (cI, M, .inl R0)), (r1, .inl (cI, M, .inl R1)), (r2, .inl (cI, M, .inl R2))] s.heap.size = A at hD ⊢
  have hA : ∀ q : Nat, s.heap.size ≤ q → A q := fun q h => by rw [← hAe]; exact Or.inr h
  have hS : va_S A s.heap s.heap [] := va_S.rf
  have hP : va_P (dC, dI) vwCl [(sm, .inr (1, [.ref so])), (so, .inl (cO, 3, .inr (.inr (.inr (.inr g))))), (r0, .inl (cI, M, .inl R0)), (r1, .inl (cI, M, .inl R1)), (r2, .inl (cI, M, .inl R2))] s.heap := hP
  have hl := lv_entry (([.ref sm, .int (nI i)] : List Value)) (n := 10) (Nat.le_of_ble_eq_true rfl)
  rw [lg_entry_eq]
  generalize (lg_sl (([.ref sm, .int (nI i)] : List Value)) ++ List.replicate (10 - (lg_sl (([.ref sm, .int (nI i)] : List Value))).length) Slot.unset).toArray = ls at hl ⊢
  have hl : lv_has ls 10 [(0, .ref sm), (1, .int (nI i))] := hl
  obtain ⟨H, hHe⟩ : ∃ H : Heap, H = s.heap := ⟨_, rfl⟩
  rw [← hHe] at hP
  have hS : va_S A s.heap H [] := by rw [hHe]; exact hS
  obtain ⟨locs, hlo⟩ : ∃ L : List Loc, L = [] := ⟨_, rfl⟩
  rw [← hlo] at hS ⊢
  rw [← hHe]
  have hm := mft_b (R0 i) (R1 i)
  have ht := tft_b (R2 i).toInt (mft (R0 i).toInt (R1 i).toInt)
  refine lv_aload_n hx hb dX2_bitsAbove64_0 rfl (lv_at hl 0 rfl) ?_
  refine lv_iload_n hx hb dX2_bitsAbove64_1 rfl (lv_at hl 1 rfl) ?_
  have hPc := hP.sub (ws' := [(sm, .inr (1, [.ref so])), (so, .inl (cO, 3, .inr (.inr (.inr (.inr g))))), (r0, .inl (cI, M, .inl R0)), (r1, .inl (cI, M, .inl R1)), (r2, .inl (cI, M, .inl R2))]) [0, 1, 2, 3, 4] rfl
  have hDc := hD.sub (ws' := [(sm, .inr (1, [.ref so])), (so, .inl (cO, 3, .inr (.inr (.inr (.inr g))))), (r0, .inl (cI, M, .inl R0)), (r1, .inl (cI, M, .inl R1)), (r2, .inl (cI, M, .inl R2))]) [0, 1, 2, 3, 4] (by decide) rfl
  have hKc := hK.sub (tys' := [(cI, .int), (cO, .array .int)]) [0, 1] rfl
  have hFc := va_free (wc := [(sm, .inr (1, [.ref so])), (so, .inl (cO, 3, .inr (.inr (.inr (.inr g))))), (r0, .inl (cI, M, .inl R0)), (r1, .inl (cI, M, .inl R1)), (r2, .inl (cI, M, .inl R2))]) hD hS hA [0, 1, 2, 3, 4] rfl
  refine va_calll (va_runV (As := [.int (nI i)]) (rest := []) ⟨hx, hb, hml, hown, hts⟩ (c_X2_moduloFirstTwo l dC dI cI cO sm so r0 r1 r2 g R0 R1 R2 M  i  H.size hg0 hg1 hg2 (by omega) (by omega)) (cwV 1 hts gX2_bitsAbove64_X2_moduloFirstTwo rfl rfl rfl (by decide +kernel) ⟨Nat.le_of_ble_eq_true rfl, Nat.le_of_ble_eq_true rfl⟩) ⟨fun a U g mk q => by obtain ⟨q0, q1, qP, qK, qD⟩ := q; exact ⟨q0, q1, qP, va_K.moved (u := U) (U := U.calling g mk a) (Vm.Alike.refl U.vm) qK, qD⟩, va_recv hKc hPc (ci := 1) (q0 := 0) rfl rfl, fun U hU hW => ⟨rfl, by rw [hU], by rw [hU]; exact hPc, va_K.moved hW.alike hKc, hDc.weaken (fun _ _ _ _ => trivial)⟩⟩ rfl rfl hl.1 rfl (lv_room (Nat.le_of_ble_eq_true rfl)) dX2_bitsAbove64_2 ⟨Nat.le_of_ble_eq_true rfl, Nat.le_of_ble_eq_true rfl⟩) hS (fun q _ h => hFc q h) hFc (fun r9 u9 t9 H1 locs ht hvm hw hB hz1 hk1 hS => ?_)
  obtain ⟨hP1, hD1⟩ := hB
  rw [ht] at hP1
  try dsimp only at hw
  obtain ⟨hP, hD⟩ := va_join (wr := []) (w1 := [(sm, .inr (1, [.ref so])), (so, .inl (cO, 3, .inr (.inr (.inr (.inr g))))), (r0, .inl (cI, M, .inl R0)), (r1, .inl (cI, M, .inl R1)), (r2, .inl (cI, M, .inl R2))]) hP hD [0, 1, 2, 3, 4] [] rfl rfl (by decide) (by decide) hk1 hFc hP1 hD1
  generalize H1 = H at hP hS ⊢
  have hP : va_P (dC, dI) vwCl [(sm, .inr (1, [.ref so])), (so, .inl (cO, 3, .inr (.inr (.inr (.inr g))))), (r0, .inl (cI, M, .inl R0)), (r1, .inl (cI, M, .inl R1)), (r2, .inl (cI, M, .inl R2))] H := hP
  have hD : va_D A [(sm, .inr (1, [.ref so])), (so, .inl (cO, 3, .inr (.inr (.inr (.inr g))))), (r0, .inl (cI, M, .inl R0)), (r1, .inl (cI, M, .inl R1)), (r2, .inl (cI, M, .inl R2))] := hD
  clear hPc hDc hKc hFc hP1 hD1 hk1 hz1 hvm ht
  subst hw
  refine lv_lstore_n (lv' := [(2, .long (lI (mft (R0 i).toInt (R1 i).toInt))), (0, .ref sm), (1, .int (nI i))]) hx hb dX2_bitsAbove64_5 rfl hl (by decide) rfl (fun ls hl => ?_)
  refine lv_aload_n hx hb dX2_bitsAbove64_6 rfl (lv_at hl 1 rfl) ?_
  refine lv_iload_n hx hb dX2_bitsAbove64_7 rfl (lv_at hl 2 rfl) ?_
  refine lv_lload_n hx hb dX2_bitsAbove64_8 rfl (lv_at hl 0 rfl) ?_
  have hPc := hP.sub (ws' := [(sm, .inr (1, [.ref so])), (so, .inl (cO, 3, .inr (.inr (.inr (.inr g))))), (r0, .inl (cI, M, .inl R0)), (r1, .inl (cI, M, .inl R1)), (r2, .inl (cI, M, .inl R2))]) [0, 1, 2, 3, 4] rfl
  have hDc := hD.sub (ws' := [(sm, .inr (1, [.ref so])), (so, .inl (cO, 3, .inr (.inr (.inr (.inr g))))), (r0, .inl (cI, M, .inl R0)), (r1, .inl (cI, M, .inl R1)), (r2, .inl (cI, M, .inl R2))]) [0, 1, 2, 3, 4] (by decide) rfl
  have hKc := hK.sub (tys' := [(cI, .int), (cO, .array .int)]) [0, 1] rfl
  have hFc := va_free (wc := [(sm, .inr (1, [.ref so])), (so, .inl (cO, 3, .inr (.inr (.inr (.inr g))))), (r0, .inl (cI, M, .inl R0)), (r1, .inl (cI, M, .inl R1)), (r2, .inl (cI, M, .inl R2))]) hD hS hA [0, 1, 2, 3, 4] rfl
  refine va_calll (va_runV (As := [.int (nI i), .long (lI (mft (R0 i).toInt (R1 i).toInt))]) (rest := []) ⟨hx, hb, hml, hown, hts⟩ (c_X2_timesOfFirstTwo l dC dI cI cO sm so r0 r1 r2 g R0 R1 R2 M  i (mft (R0 i).toInt (R1 i).toInt) H.size hg0 hg1 hg2 (by omega) (by omega) (by omega) (by omega)) (cwV 2 hts gX2_bitsAbove64_X2_timesOfFirstTwo rfl rfl rfl (by decide +kernel) ⟨Nat.le_of_ble_eq_true rfl, Nat.le_of_ble_eq_true rfl⟩) ⟨fun a U g mk q => by obtain ⟨q0, q1, qP, qK, qD⟩ := q; exact ⟨q0, q1, qP, va_K.moved (u := U) (U := U.calling g mk a) (Vm.Alike.refl U.vm) qK, qD⟩, va_recv hKc hPc (ci := 1) (q0 := 0) rfl rfl, fun U hU hW => ⟨rfl, by rw [hU], by rw [hU]; exact hPc, va_K.moved hW.alike hKc, hDc.weaken (fun _ _ _ _ => trivial)⟩⟩ rfl rfl hl.1 rfl (lv_room (Nat.le_of_ble_eq_true rfl)) dX2_bitsAbove64_9 ⟨Nat.le_of_ble_eq_true rfl, Nat.le_of_ble_eq_true rfl⟩) hS (fun q _ h => hFc q h) hFc (fun r9 u9 t9 H1 locs ht hvm hw hB hz1 hk1 hS => ?_)
  obtain ⟨hP1, hD1⟩ := hB
  rw [ht] at hP1
  try dsimp only at hw
  obtain ⟨hP, hD⟩ := va_join (wr := []) (w1 := [(sm, .inr (1, [.ref so])), (so, .inl (cO, 3, .inr (.inr (.inr (.inr g))))), (r0, .inl (cI, M, .inl R0)), (r1, .inl (cI, M, .inl R1)), (r2, .inl (cI, M, .inl R2))]) hP hD [0, 1, 2, 3, 4] [] rfl rfl (by decide) (by decide) hk1 hFc hP1 hD1
  generalize H1 = H at hP hS ⊢
  have hP : va_P (dC, dI) vwCl [(sm, .inr (1, [.ref so])), (so, .inl (cO, 3, .inr (.inr (.inr (.inr g))))), (r0, .inl (cI, M, .inl R0)), (r1, .inl (cI, M, .inl R1)), (r2, .inl (cI, M, .inl R2))] H := hP
  have hD : va_D A [(sm, .inr (1, [.ref so])), (so, .inl (cO, 3, .inr (.inr (.inr (.inr g))))), (r0, .inl (cI, M, .inl R0)), (r1, .inl (cI, M, .inl R1)), (r2, .inl (cI, M, .inl R2))] := hD
  clear hPc hDc hKc hFc hP1 hD1 hk1 hz1 hvm ht
  subst hw
  refine lv_lstore (lv' := [(4, .long (lI (tft (R2 i).toInt (mft (R0 i).toInt (R1 i).toInt)))), (2, .long (lI (mft (R0 i).toInt (R1 i).toInt))), (0, .ref sm), (1, .int (nI i))]) hx hb dX2_bitsAbove64_12 hl (by decide) rfl (fun ls hl => ?_)
  refine lv_lload_n hx hb dX2_bitsAbove64_14 rfl (lv_at hl 1 rfl) ?_
  refine lv_ldc2 (own := RX2) (v := lI (1166016513)) hx hb hown (hts (.constantLong RX2 33 (1166016513)) (by decide +kernel)) dX2_bitsAbove64_15 ?_
  refine lv_lload hx hb dX2_bitsAbove64_18 (lv_at hl 0 rfl) ?_
  refine lv_lmul hx hb dX2_bitsAbove64_20 ?_
  refine W.eq (congrArg (fun z => F0 m _ ls (.long z :: _)) (show lI 1166016513 * lI (tft (R2 i).toInt (mft (R0 i).toInt (R1 i).toInt)) = lI (1166016513 * (tft (R2 i).toInt (mft (R0 i).toInt (R1 i).toInt))) from lI_mul 1166016513 (tft (R2 i).toInt (mft (R0 i).toInt (R1 i).toInt)))) ?_
  refine lv_ladd hx hb dX2_bitsAbove64_21 ?_
  refine W.eq (congrArg (fun z => F0 m _ ls (.long z :: _)) (show lI (mft (R0 i).toInt (R1 i).toInt) + lI (1166016513 * (tft (R2 i).toInt (mft (R0 i).toInt (R1 i).toInt))) = lI ((mft (R0 i).toInt (R1 i).toInt) + (1166016513 * (tft (R2 i).toInt (mft (R0 i).toInt (R1 i).toInt)))) from lI_add (mft (R0 i).toInt (R1 i).toInt) (1166016513 * (tft (R2 i).toInt (mft (R0 i).toInt (R1 i).toInt))))) ?_
  refine lv_lstore (lv' := [(6, .long (lI ((mft (R0 i).toInt (R1 i).toInt) + (1166016513 * (tft (R2 i).toInt (mft (R0 i).toInt (R1 i).toInt)))))), (4, .long (lI (tft (R2 i).toInt (mft (R0 i).toInt (R1 i).toInt)))), (2, .long (lI (mft (R0 i).toInt (R1 i).toInt))), (0, .ref sm), (1, .int (nI i))]) hx hb dX2_bitsAbove64_22 hl (by decide) rfl (fun ls hl => ?_)
  refine lv_ldc2 (own := RX2) (v := lI (38993920)) hx hb hown (hts (.constantLong RX2 35 (38993920)) (by decide +kernel)) dX2_bitsAbove64_24 ?_
  refine lv_lload hx hb dX2_bitsAbove64_27 (lv_at hl 1 rfl) ?_
  refine lv_lmul hx hb dX2_bitsAbove64_29 ?_
  refine W.eq (congrArg (fun z => F0 m _ ls (.long z :: _)) (show lI 38993920 * lI (tft (R2 i).toInt (mft (R0 i).toInt (R1 i).toInt)) = lI (38993920 * (tft (R2 i).toInt (mft (R0 i).toInt (R1 i).toInt))) from lI_mul 38993920 (tft (R2 i).toInt (mft (R0 i).toInt (R1 i).toInt)))) ?_
  refine lv_lstore (lv' := [(8, .long (lI (38993920 * (tft (R2 i).toInt (mft (R0 i).toInt (R1 i).toInt))))), (6, .long (lI ((mft (R0 i).toInt (R1 i).toInt) + (1166016513 * (tft (R2 i).toInt (mft (R0 i).toInt (R1 i).toInt)))))), (4, .long (lI (tft (R2 i).toInt (mft (R0 i).toInt (R1 i).toInt)))), (2, .long (lI (mft (R0 i).toInt (R1 i).toInt))), (0, .ref sm), (1, .int (nI i))]) hx hb dX2_bitsAbove64_30 hl (by decide) rfl (fun ls hl => ?_)
  refine lv_lload hx hb dX2_bitsAbove64_32 (lv_at hl 0 rfl) ?_
  refine lv_lload hx hb dX2_bitsAbove64_34 (lv_at hl 1 rfl) ?_
  refine lv_bipush (v := nI 32) hx hb dX2_bitsAbove64_36 (by decide) ?_
  refine lv_lshr (v := lI (((mft (R0 i).toInt (R1 i).toInt) + (1166016513 * (tft (R2 i).toInt (mft (R0 i).toInt (R1 i).toInt)))) / 2 ^ 32)) hx hb dX2_bitsAbove64_38 (lI_shr32 (by omega) (by omega)) ?_
  refine lv_ladd hx hb dX2_bitsAbove64_39 ?_
  refine W.eq (congrArg (fun z => F0 m _ ls (.long z :: _)) (show lI (38993920 * (tft (R2 i).toInt (mft (R0 i).toInt (R1 i).toInt))) + lI (((mft (R0 i).toInt (R1 i).toInt) + (1166016513 * (tft (R2 i).toInt (mft (R0 i).toInt (R1 i).toInt)))) / 2 ^ 32) = lI ((38993920 * (tft (R2 i).toInt (mft (R0 i).toInt (R1 i).toInt))) + (((mft (R0 i).toInt (R1 i).toInt) + (1166016513 * (tft (R2 i).toInt (mft (R0 i).toInt (R1 i).toInt)))) / 2 ^ 32)) from lI_add (38993920 * (tft (R2 i).toInt (mft (R0 i).toInt (R1 i).toInt))) (((mft (R0 i).toInt (R1 i).toInt) + (1166016513 * (tft (R2 i).toInt (mft (R0 i).toInt (R1 i).toInt)))) / 2 ^ 32))) ?_
  refine lv_bipush (v := nI 32) hx hb dX2_bitsAbove64_40 (by decide) ?_
  refine lv_lshr (v := lI (((38993920 * (tft (R2 i).toInt (mft (R0 i).toInt (R1 i).toInt))) + (((mft (R0 i).toInt (R1 i).toInt) + (1166016513 * (tft (R2 i).toInt (mft (R0 i).toInt (R1 i).toInt)))) / 2 ^ 32)) / 2 ^ 32)) hx hb dX2_bitsAbove64_42 (lI_shr32 (by omega) (by omega)) ?_
  refine lv_l2i (v := iI (((38993920 * (tft (R2 i).toInt (mft (R0 i).toInt (R1 i).toInt))) + (((mft (R0 i).toInt (R1 i).toInt) + (1166016513 * (tft (R2 i).toInt (mft (R0 i).toInt (R1 i).toInt)))) / 2 ^ 32)) / 2 ^ 32)) hx hb dX2_bitsAbove64_43 (lI_i (((38993920 * (tft (R2 i).toInt (mft (R0 i).toInt (R1 i).toInt))) + (((mft (R0 i).toInt (R1 i).toInt) + (1166016513 * (tft (R2 i).toInt (mft (R0 i).toInt (R1 i).toInt)))) / 2 ^ 32)) / 2 ^ 32)) ?_
  have hP9 : va_P (dC, dI) vwCl [(sm, .inr (1, [.ref so])), (so, .inl (cO, 3, .inr (.inr (.inr (.inr g))))), (r0, .inl (cI, M, .inl R0)), (r1, .inl (cI, M, .inl R1)), (r2, .inl (cI, M, .inl R2))] H := hP.sub [0, 1, 2, 3, 4] rfl
  have hD9 : va_D A [(sm, .inr (1, [.ref so])), (so, .inl (cO, 3, .inr (.inr (.inr (.inr g))))), (r0, .inl (cI, M, .inl R0)), (r1, .inl (cI, M, .inl R1)), (r2, .inl (cI, M, .inl R2))] := hD.sub [0, 1, 2, 3, 4] (by decide) rfl
  exact W.iret (v := iI (((38993920 * (tft (R2 i).toInt (mft (R0 i).toInt (R1 i).toInt))) + (((mft (R0 i).toInt (R1 i).toInt) + (1166016513 * (tft (R2 i).toInt (mft (R0 i).toInt (R1 i).toInt)))) / 2 ^ 32)) / 2 ^ 32)) hx hb hr (fun t ht hW => ⟨⟨iI (((38993920 * (tft (R2 i).toInt (mft (R0 i).toInt (R1 i).toInt))) + (((mft (R0 i).toInt (R1 i).toInt) + (1166016513 * (tft (R2 i).toInt (mft (R0 i).toInt (R1 i).toInt)))) / 2 ^ 32)) / 2 ^ 32), (), rfl, rfl, by rw [ht]; exact hP9, hD9⟩, hS.F ht⟩) hS.2.2 dX2_bitsAbove64_44

abbrev q_X2_cutInto (dC : Nat → ClassId) (dI : Nat → Nat → Nat) (cI cO : ClassId) (sm so r0 r1 r2 ra : Nat) (g : Nat → Option Nat) (R0 R1 R2 f : Nat → Int32) (M n : Nat) (A : Nat → Prop) : Array Value → State → Outcome → State → Prop := va_Qv (fun (u : Unit) => True) (fun u t => va_P (dC, dI) vwCl [(sm, .inr (1, [.ref so])), (so, .inl (cO, 3, .inr (.inr (.inr (.inr g))))), (r0, .inl (cI, M, .inl R0)), (r1, .inl (cI, M, .inl R1)), (r2, .inl (cI, M, .inl R2)), (ra, .inl (cI, 256, .inl (ctI f R0 R1 R2 n)))] t.heap ∧ va_D A [(sm, .inr (1, [.ref so])), (so, .inl (cO, 3, .inr (.inr (.inr (.inr g))))), (r0, .inl (cI, M, .inl R0)), (r1, .inl (cI, M, .inl R1)), (r2, .inl (cI, M, .inl R2)), (ra, .inl (cI, 256, .inl (ctI f R0 R1 R2 n)))]) A
set_option maxHeartbeats 4000000 in
set_option maxRecDepth 100000 in
theorem c_X2_cutInto (l : Launch) (dC : Nat → ClassId) (dI : Nat → Nat → Nat) (cI cO : ClassId) (sm so r0 r1 r2 ra : Nat) (g : Nat → Option Nat) (R0 R1 R2 f : Nat → Int32) (M n : Nat) (sz : Nat) (hg0 : g 0 = some r0) (hg1 : g 1 = some r1) (hg2 : g 2 = some r2) (hn : n ≤ M) (hn2 : n ≤ 256) (hM : M ≤ 512) : Met l yX2_cutInto wsX2_cutInto ({ frames := 3, cells := 0, slots := 0, locals := 74 }) (va_Pc [.ref sm, .ref ra, .int (nI n)] (fun U => U.heap.size = sz ∧ va_P (dC, dI) vwCl [(sm, .inr (1, [.ref so])), (so, .inl (cO, 3, .inr (.inr (.inr (.inr g))))), (r0, .inl (cI, M, .inl R0)), (r1, .inl (cI, M, .inl R1)), (r2, .inl (cI, M, .inl R2)), (ra, .inl (cI, 256, .inl f))] U.heap ∧ va_K (dC, dI) vwCl [(cI, .int), (cO, .array .int)] U ∧ va_D (fun _ => True) [(sm, .inr (1, [.ref so])), (so, .inl (cO, 3, .inr (.inr (.inr (.inr g))))), (r0, .inl (cI, M, .inl R0)), (r1, .inl (cI, M, .inl R1)), (r2, .inl (cI, M, .inl R2)), (ra, .inl (cI, 256, .inl f))])) (q_X2_cutInto dC dI cI cO sm so r0 r1 r2 ra g R0 R1 R2 f M n (va_A [(sm, .inr (1, [.ref so])), (so, .inl (cO, 3, .inr (.inr (.inr (.inr g))))), (r0, .inl (cI, M, .inl R0)), (r1, .inl (cI, M, .inl R1)), (r2, .inl (cI, M, .inl R2)), (ra, .inl (cI, 256, .inl f))] sz)) 0 0 (va_A [(sm, .inr (1, [.ref so])), (so, .inl (cO, 3, .inr (.inr (.inr (.inr g))))), (r0, .inl (cI, M, .inl R0)), (r1, .inl (cI, M, .inl R1)), (r2, .inl (cI, M, .inl R2)), (ra, .inl (cI, 256, .inl f))] sz) := by
  refine Met.ofW (cc := cX2_cutInto) (maxL := 4) (ret := none) (by decide) rfl ?_
  intro p e s m args below meth c s₁ B hml hv
  obtain ⟨rfl, hsz, hP, hK, hD0⟩ := hv
  have hx := B.exec
  have hb := B.bytes
  have hr := B.returns
  have hts := atoms_spec (ws := wsX2_cutInto) B.pre
  have hown : s.vm.findClass RX2 = some m.cls := findClass_of_methodNamed B.named
  have hlocks := B.notSynchronized
  subst hsz
  have hD := hD0.self (sz := s.heap.size)
  generalize hAe : va_A [(sm, .inr (1, [.ref so])), (so, .inl (cO, 3, .inr (.inr (.inr (.inr g))))), (r0, .inl (cI, M, .inl R0)), (r1, .inl (cI, M, .inl R1)), (r2, .inl (cI, M, .inl R2)), (ra, .inl (cI, 256, .inl f))] s.heap.size = A at hD ⊢
  have hA : ∀ q : Nat, s.heap.size ≤ q → A q := fun q h => by rw [← hAe]; exact Or.inr h
  have hS : va_S A s.heap s.heap [] := va_S.rf
  have hP : va_P (dC, dI) vwCl [(sm, .inr (1, [.ref so])), (so, .inl (cO, 3, .inr (.inr (.inr (.inr g))))), (r0, .inl (cI, M, .inl R0)), (r1, .inl (cI, M, .inl R1)), (r2, .inl (cI, M, .inl R2)), (ra, .inl (cI, 256, .inl f))] s.heap := hP
  have hl := lv_entry (([.ref sm, .ref ra, .int (nI n)] : List Value)) (n := 4) (Nat.le_of_ble_eq_true rfl)
  rw [lg_entry_eq]
  generalize (lg_sl (([.ref sm, .ref ra, .int (nI n)] : List Value)) ++ List.replicate (4 - (lg_sl (([.ref sm, .ref ra, .int (nI n)] : List Value))).length) Slot.unset).toArray = ls at hl ⊢
  have hl : lv_has ls 4 [(0, .ref sm), (1, .ref ra), (2, .int (nI n))] := hl
  obtain ⟨H, hHe⟩ : ∃ H : Heap, H = s.heap := ⟨_, rfl⟩
  rw [← hHe] at hP
  have hS : va_S A s.heap H [] := by rw [hHe]; exact hS
  obtain ⟨locs, hlo⟩ : ∃ L : List Loc, L = [] := ⟨_, rfl⟩
  rw [← hlo] at hS ⊢
  rw [← hHe]
  refine lv_iconst (v := nI 0) hx hb dX2_cutInto_0 (by decide) ?_
  rw [show f = ctI f R0 R1 R2 0 from (ctI_0 _ _ _ _).symm] at hP hD
  have hP : va_P (dC, dI) vwCl [(sm, .inr (1, [.ref so])), (so, .inl (cO, 3, .inr (.inr (.inr (.inr g))))), (r0, .inl (cI, M, .inl R0)), (r1, .inl (cI, M, .inl R1)), (r2, .inl (cI, M, .inl R2)), (ra, .inl (cI, 256, .inl (ctI f R0 R1 R2 0)))] H := hP
  have hD : va_D A [(sm, .inr (1, [.ref so])), (so, .inl (cO, 3, .inr (.inr (.inr (.inr g))))), (r0, .inl (cI, M, .inl R0)), (r1, .inl (cI, M, .inl R1)), (r2, .inl (cI, M, .inl R2)), (ra, .inl (cI, 256, .inl (ctI f R0 R1 R2 0)))] := hD
  refine lv_istore_n (lv' := [(3, .int (nI 0)), (0, .ref sm), (1, .ref ra), (2, .int (nI n))]) hx hb dX2_cutInto_1 rfl hl (by decide) rfl (fun ls hl => ?_)
  have key_2 : ∀ (fuel : Nat) (t : Nat), (t ≤ n) → (n - t < fuel) → ∀ (H : Heap) (locs : List Loc) (ls : Array Slot), va_P (dC, dI) vwCl [(sm, .inr (1, [.ref so])), (so, .inl (cO, 3, .inr (.inr (.inr (.inr g))))), (r0, .inl (cI, M, .inl R0)), (r1, .inl (cI, M, .inl R1)), (r2, .inl (cI, M, .inl R2)), (ra, .inl (cI, 256, .inl (ctI f R0 R1 R2 t)))] H → va_D A [(sm, .inr (1, [.ref so])), (so, .inl (cO, 3, .inr (.inr (.inr (.inr g))))), (r0, .inl (cI, M, .inl R0)), (r1, .inl (cI, M, .inl R1)), (r2, .inl (cI, M, .inl R2)), (ra, .inl (cI, 256, .inl (ctI f R0 R1 R2 t)))] → va_S A s.heap H locs → lv_has ls 4 [(3, .int (nI t)), (2, .int (nI n)), (1, .ref ra), (0, .ref sm)] → W p l e (headSpec wsX2_cutInto { frames := 3, cells := 0, slots := 0, locals := 74 }).room s m ([.ref sm, .ref ra, .int (nI n)] : List Value).toArray below meth c H locs 0 0 (MQ below (q_X2_cutInto dC dI cI cO sm so r0 r1 r2 ra g R0 R1 R2 f M n  A) ([.ref sm, .ref ra, .int (nI n)] : List Value).toArray s 0 0 A) (F0 m 2 ls []) := by
    intro fuel
    induction fuel with
    | zero => intro t; intros; omega
    | succ fuel ih_2 =>
      intro t ht hfu H locs ls hP hD hS hl
      refine lv_iload_n hx hb dX2_cutInto_2 rfl (lv_at hl 0 rfl) ?_
      refine lv_iload_n hx hb dX2_cutInto_3 rfl (lv_at hl 1 rfl) ?_
      refine lv_icmp_ge (tgt := 22) hx hb dX2_cutInto_4 (by decide) (fun c_1 => ?_) (fun c_1 => ?_)
      · have c_1 : n ≤ t := (nI_leI (a := n) (b := t) (by omega) (by omega)).mp c_1
        rw [show ctI f R0 R1 R2 t = ctI f R0 R1 R2 n from by rw [show t = n by omega]] at hP hD
        have hP : va_P (dC, dI) vwCl [(sm, .inr (1, [.ref so])), (so, .inl (cO, 3, .inr (.inr (.inr (.inr g))))), (r0, .inl (cI, M, .inl R0)), (r1, .inl (cI, M, .inl R1)), (r2, .inl (cI, M, .inl R2)), (ra, .inl (cI, 256, .inl (ctI f R0 R1 R2 n)))] H := hP
        have hD : va_D A [(sm, .inr (1, [.ref so])), (so, .inl (cO, 3, .inr (.inr (.inr (.inr g))))), (r0, .inl (cI, M, .inl R0)), (r1, .inl (cI, M, .inl R1)), (r2, .inl (cI, M, .inl R2)), (ra, .inl (cI, 256, .inl (ctI f R0 R1 R2 n)))] := hD
        have hP9 : va_P (dC, dI) vwCl [(sm, .inr (1, [.ref so])), (so, .inl (cO, 3, .inr (.inr (.inr (.inr g))))), (r0, .inl (cI, M, .inl R0)), (r1, .inl (cI, M, .inl R1)), (r2, .inl (cI, M, .inl R2)), (ra, .inl (cI, 256, .inl (ctI f R0 R1 R2 n)))] H := hP.sub [0, 1, 2, 3, 4, 5] rfl
        have hD9 : va_D A [(sm, .inr (1, [.ref so])), (so, .inl (cO, 3, .inr (.inr (.inr (.inr g))))), (r0, .inl (cI, M, .inl R0)), (r1, .inl (cI, M, .inl R1)), (r2, .inl (cI, M, .inl R2)), (ra, .inl (cI, 256, .inl (ctI f R0 R1 R2 n)))] := hD.sub [0, 1, 2, 3, 4, 5] (by decide) rfl
        exact W.vret hx hb hr (fun t ht hW => ⟨⟨(), rfl, trivial, by rw [ht]; exact hP9, hD9⟩, hS.F ht⟩) hS.2.2 dX2_cutInto_22
      · have c_1 : ¬ (n ≤ t) := fun zq9 => c_1 ((nI_leI (a := n) (b := t) (by omega) (by omega)).mpr zq9)
        refine lv_aload_n hx hb dX2_cutInto_7 rfl (lv_at hl 2 rfl) ?_
        refine lv_iload_n hx hb dX2_cutInto_8 rfl (lv_at hl 0 rfl) ?_
        refine lv_aload_n hx hb dX2_cutInto_9 rfl (lv_at hl 3 rfl) ?_
        refine lv_iload_n hx hb dX2_cutInto_10 rfl (lv_at hl 0 rfl) ?_
        have hPc := hP.sub (ws' := [(sm, .inr (1, [.ref so])), (so, .inl (cO, 3, .inr (.inr (.inr (.inr g))))), (r0, .inl (cI, M, .inl R0)), (r1, .inl (cI, M, .inl R1)), (r2, .inl (cI, M, .inl R2))]) [0, 1, 2, 3, 4] rfl
        have hDc := hD.sub (ws' := [(sm, .inr (1, [.ref so])), (so, .inl (cO, 3, .inr (.inr (.inr (.inr g))))), (r0, .inl (cI, M, .inl R0)), (r1, .inl (cI, M, .inl R1)), (r2, .inl (cI, M, .inl R2))]) [0, 1, 2, 3, 4] (by decide) rfl
        have hKc := hK.sub (tys' := [(cI, .int), (cO, .array .int)]) [0, 1] rfl
        have hFc := va_free (wc := [(sm, .inr (1, [.ref so])), (so, .inl (cO, 3, .inr (.inr (.inr (.inr g))))), (r0, .inl (cI, M, .inl R0)), (r1, .inl (cI, M, .inl R1)), (r2, .inl (cI, M, .inl R2))]) hD hS hA [0, 1, 2, 3, 4] rfl
        refine va_calll (va_runV (As := [.int (nI t)]) (rest := [.int (nI t), .ref ra]) ⟨hx, hb, hml, hown, hts⟩ (c_X2_lowest64Bits l dC dI cI cO sm so r0 r1 r2 g R0 R1 R2 M  t  H.size hg0 hg1 hg2 (by omega) (by omega)) (cwV 1 hts gX2_cutInto_X2_lowest64Bits rfl rfl rfl (by decide +kernel) ⟨Nat.le_of_ble_eq_true rfl, Nat.le_of_ble_eq_true rfl⟩) ⟨fun a U g mk q => by obtain ⟨q0, q1, qP, qK, qD⟩ := q; exact ⟨q0, q1, qP, va_K.moved (u := U) (U := U.calling g mk a) (Vm.Alike.refl U.vm) qK, qD⟩, va_recv hKc hPc (ci := 1) (q0 := 0) rfl rfl, fun U hU hW => ⟨rfl, by rw [hU], by rw [hU]; exact hPc, va_K.moved hW.alike hKc, hDc.weaken (fun _ _ _ _ => trivial)⟩⟩ rfl rfl hl.1 rfl (lv_room (Nat.le_of_ble_eq_true rfl)) dX2_cutInto_11 ⟨Nat.le_of_ble_eq_true rfl, Nat.le_of_ble_eq_true rfl⟩) hS (fun q _ h => hFc q h) hFc (fun r9 u9 t9 H1 locs ht hvm hw hB hz1 hk1 hS => ?_)
        obtain ⟨hP1, hD1⟩ := hB
        rw [ht] at hP1
        try dsimp only at hw
        obtain ⟨hP, hD⟩ := va_join (wr := [(ra, .inl (cI, 256, .inl (ctI f R0 R1 R2 t)))]) (w1 := [(sm, .inr (1, [.ref so])), (so, .inl (cO, 3, .inr (.inr (.inr (.inr g))))), (r0, .inl (cI, M, .inl R0)), (r1, .inl (cI, M, .inl R1)), (r2, .inl (cI, M, .inl R2))]) hP hD [0, 1, 2, 3, 4] [5] rfl rfl (by decide) (by decide) hk1 hFc hP1 hD1
        generalize H1 = H at hP hS ⊢
        have hP : va_P (dC, dI) vwCl [(ra, .inl (cI, 256, .inl (ctI f R0 R1 R2 t))), (sm, .inr (1, [.ref so])), (so, .inl (cO, 3, .inr (.inr (.inr (.inr g))))), (r0, .inl (cI, M, .inl R0)), (r1, .inl (cI, M, .inl R1)), (r2, .inl (cI, M, .inl R2))] H := hP
        have hD : va_D A [(ra, .inl (cI, 256, .inl (ctI f R0 R1 R2 t))), (sm, .inr (1, [.ref so])), (so, .inl (cO, 3, .inr (.inr (.inr (.inr g))))), (r0, .inl (cI, M, .inl R0)), (r1, .inl (cI, M, .inl R1)), (r2, .inl (cI, M, .inl R2))] := hD
        clear hPc hDc hKc hFc hP1 hD1 hk1 hz1 hvm ht
        subst hw
        refine lv_l2i (v := iI (lowZ (R0 t).toInt (R1 t).toInt (R2 t).toInt)) hx hb dX2_cutInto_14 (lI_i (lowZ (R0 t).toInt (R1 t).toInt (R2 t).toInt)) ?_
        refine va_iast hx hb hK hP hD hS 0 0 rfl rfl (vp_in_nI (by omega) (by omega)) dX2_cutInto_15 (fun H locs hP hD hS => ?_)
        rw [nI_clamp (show t < 2 ^ 31 by omega)] at hP hD
        have hP : va_P (dC, dI) vwCl [(ra, .inl (cI, 256, .inl (upd (ctI f R0 R1 R2 t) t (iI (lowZ (R0 t).toInt (R1 t).toInt (R2 t).toInt))))), (sm, .inr (1, [.ref so])), (so, .inl (cO, 3, .inr (.inr (.inr (.inr g))))), (r0, .inl (cI, M, .inl R0)), (r1, .inl (cI, M, .inl R1)), (r2, .inl (cI, M, .inl R2))] H := hP
        have hD : va_D A [(ra, .inl (cI, 256, .inl (upd (ctI f R0 R1 R2 t) t (iI (lowZ (R0 t).toInt (R1 t).toInt (R2 t).toInt))))), (sm, .inr (1, [.ref so])), (so, .inl (cO, 3, .inr (.inr (.inr (.inr g))))), (r0, .inl (cI, M, .inl R0)), (r1, .inl (cI, M, .inl R1)), (r2, .inl (cI, M, .inl R2))] := hD
        rw [show upd (ctI f R0 R1 R2 t) t (iI (lowZ (R0 t).toInt (R1 t).toInt (R2 t).toInt)) = ctI f R0 R1 R2 (t + 1) from ctI_s] at hP hD
        have hP : va_P (dC, dI) vwCl [(ra, .inl (cI, 256, .inl (ctI f R0 R1 R2 (t + 1)))), (sm, .inr (1, [.ref so])), (so, .inl (cO, 3, .inr (.inr (.inr (.inr g))))), (r0, .inl (cI, M, .inl R0)), (r1, .inl (cI, M, .inl R1)), (r2, .inl (cI, M, .inl R2))] H := hP
        have hD : va_D A [(ra, .inl (cI, 256, .inl (ctI f R0 R1 R2 (t + 1)))), (sm, .inr (1, [.ref so])), (so, .inl (cO, 3, .inr (.inr (.inr (.inr g))))), (r0, .inl (cI, M, .inl R0)), (r1, .inl (cI, M, .inl R1)), (r2, .inl (cI, M, .inl R2))] := hD
        refine lv_iinc (v := nI (t + 1)) (lv' := [(3, .int (nI (t + 1))), (2, .int (nI n)), (1, .ref ra), (0, .ref sm)]) hx hb dX2_cutInto_16 hl (k := 0) rfl (nI_add t 1) (by decide) rfl (fun ls hl => ?_)
        refine lv_goto (tgt := 2) hx hb dX2_cutInto_19 (by decide) ?_
        exact ih_2  (t + 1) (by omega) (by omega) _ _ _ (hP.sub [1, 2, 3, 4, 5, 0] rfl) (hD.sub [1, 2, 3, 4, 5, 0] (by decide) rfl) hS (lv_sub hl [0, 1, 2, 3] rfl)
  exact key_2 (n + 1) 0 (by omega) (by omega) _ _ _ (hP.sub [0, 1, 2, 3, 4, 5] rfl) (hD.sub [0, 1, 2, 3, 4, 5] (by decide) rfl) hS (lv_sub hl [0, 3, 2, 1] rfl)

abbrev q_X0_storeRemainders (dC : Nat → ClassId) (dI : Nat → Nat → Nat) (cI cJ cO : ClassId) (hh lf rt rp sm so ra : Nat) (g : Nat → Option Nat) (F : Nat → Int) (f : Nat → Int32) (M n q : Nat) (A : Nat → Prop) : Array Value → State → Outcome → State → Prop := va_Qv (fun (u : Unit) => True) (fun u t => va_P (dC, dI) vwCl [(hh, .inr (0, [.ref lf, .ref rt, .ref rp])), (lf, .inl (cJ, 512, .inr (.inl (fun j => lI (F j))))), (sm, .inr (1, [.ref so])), (so, .inl (cO, 3, .inr (.inr (.inr (.inr g))))), (ra, .inl (cI, M, .inl (stR f F n)))] t.heap ∧ va_D A [(hh, .inr (0, [.ref lf, .ref rt, .ref rp])), (lf, .inl (cJ, 512, .inr (.inl (fun j => lI (F j))))), (sm, .inr (1, [.ref so])), (so, .inl (cO, 3, .inr (.inr (.inr (.inr g))))), (ra, .inl (cI, M, .inl (stR f F n)))]) A
set_option maxHeartbeats 4000000 in
set_option maxRecDepth 100000 in
theorem c_X0_storeRemainders (l : Launch) (dC : Nat → ClassId) (dI : Nat → Nat → Nat) (cI cJ cO : ClassId) (hh lf rt rp sm so ra : Nat) (g : Nat → Option Nat) (F : Nat → Int) (f : Nat → Int32) (M n q : Nat) (sz : Nat) (hg : g q = some ra) (hq : q < 3) (hn : n ≤ M) (hM : M ≤ 512) : Met l yX0_storeRemainders wsX0_storeRemainders ({ frames := 1, cells := 0, slots := 0, locals := 24 }) (va_Pc [.ref hh, .int (nI n), .int (nI q), .ref sm] (fun U => U.heap.size = sz ∧ va_P (dC, dI) vwCl [(hh, .inr (0, [.ref lf, .ref rt, .ref rp])), (lf, .inl (cJ, 512, .inr (.inl (fun j => lI (F j))))), (sm, .inr (1, [.ref so])), (so, .inl (cO, 3, .inr (.inr (.inr (.inr g))))), (ra, .inl (cI, M, .inl f))] U.heap ∧ va_K (dC, dI) vwCl [(cI, .int), (cJ, .long), (cO, .array .int)] U ∧ va_D (fun _ => True) [(hh, .inr (0, [.ref lf, .ref rt, .ref rp])), (lf, .inl (cJ, 512, .inr (.inl (fun j => lI (F j))))), (sm, .inr (1, [.ref so])), (so, .inl (cO, 3, .inr (.inr (.inr (.inr g))))), (ra, .inl (cI, M, .inl f))])) (q_X0_storeRemainders dC dI cI cJ cO hh lf rt rp sm so ra g F f M n q (va_A [(hh, .inr (0, [.ref lf, .ref rt, .ref rp])), (lf, .inl (cJ, 512, .inr (.inl (fun j => lI (F j))))), (sm, .inr (1, [.ref so])), (so, .inl (cO, 3, .inr (.inr (.inr (.inr g))))), (ra, .inl (cI, M, .inl f))] sz)) 0 0 (va_A [(hh, .inr (0, [.ref lf, .ref rt, .ref rp])), (lf, .inl (cJ, 512, .inr (.inl (fun j => lI (F j))))), (sm, .inr (1, [.ref so])), (so, .inl (cO, 3, .inr (.inr (.inr (.inr g))))), (ra, .inl (cI, M, .inl f))] sz) := by
  refine Met.ofW (cc := cX0_storeRemainders) (maxL := 5) (ret := none) (by decide) rfl ?_
  intro p e s m args below meth c s₁ B hml hv
  obtain ⟨rfl, hsz, hP, hK, hD0⟩ := hv
  have hx := B.exec
  have hb := B.bytes
  have hr := B.returns
  have hts := atoms_spec (ws := wsX0_storeRemainders) B.pre
  have hown : s.vm.findClass RX0 = some m.cls := findClass_of_methodNamed B.named
  have hlocks := B.notSynchronized
  subst hsz
  have hD := hD0.self (sz := s.heap.size)
  generalize hAe : va_A [(hh, .inr (0, [.ref lf, .ref rt, .ref rp])), (lf, .inl (cJ, 512, .inr (.inl (fun j => lI (F j))))), (sm, .inr (1, [.ref so])), (so, .inl (cO, 3, .inr (.inr (.inr (.inr g))))), (ra, .inl (cI, M, .inl f))] s.heap.size = A at hD ⊢
  have hA : ∀ q : Nat, s.heap.size ≤ q → A q := fun q h => by rw [← hAe]; exact Or.inr h
  have hS : va_S A s.heap s.heap [] := va_S.rf
  have hP : va_P (dC, dI) vwCl [(hh, .inr (0, [.ref lf, .ref rt, .ref rp])), (lf, .inl (cJ, 512, .inr (.inl (fun j => lI (F j))))), (sm, .inr (1, [.ref so])), (so, .inl (cO, 3, .inr (.inr (.inr (.inr g))))), (ra, .inl (cI, M, .inl f))] s.heap := hP
  have hl := lv_entry (([.ref hh, .int (nI n), .int (nI q), .ref sm] : List Value)) (n := 5) (Nat.le_of_ble_eq_true rfl)
  rw [lg_entry_eq]
  generalize (lg_sl (([.ref hh, .int (nI n), .int (nI q), .ref sm] : List Value)) ++ List.replicate (5 - (lg_sl (([.ref hh, .int (nI n), .int (nI q), .ref sm] : List Value))).length) Slot.unset).toArray = ls at hl ⊢
  have hl : lv_has ls 5 [(0, .ref hh), (1, .int (nI n)), (2, .int (nI q)), (3, .ref sm)] := hl
  obtain ⟨H, hHe⟩ : ∃ H : Heap, H = s.heap := ⟨_, rfl⟩
  rw [← hHe] at hP
  have hS : va_S A s.heap H [] := by rw [hHe]; exact hS
  obtain ⟨locs, hlo⟩ : ∃ L : List Loc, L = [] := ⟨_, rfl⟩
  rw [← hlo] at hS ⊢
  rw [← hHe]
  refine lv_iconst (v := nI 0) hx hb dX0_storeRemainders_0 (by decide) ?_
  rw [show f = stR f F 0 from (stR_0 _ _).symm] at hP hD
  have hP : va_P (dC, dI) vwCl [(hh, .inr (0, [.ref lf, .ref rt, .ref rp])), (lf, .inl (cJ, 512, .inr (.inl (fun j => lI (F j))))), (sm, .inr (1, [.ref so])), (so, .inl (cO, 3, .inr (.inr (.inr (.inr g))))), (ra, .inl (cI, M, .inl (stR f F 0)))] H := hP
  have hD : va_D A [(hh, .inr (0, [.ref lf, .ref rt, .ref rp])), (lf, .inl (cJ, 512, .inr (.inl (fun j => lI (F j))))), (sm, .inr (1, [.ref so])), (so, .inl (cO, 3, .inr (.inr (.inr (.inr g))))), (ra, .inl (cI, M, .inl (stR f F 0)))] := hD
  refine lv_istore (lv' := [(4, .int (nI 0)), (0, .ref hh), (1, .int (nI n)), (2, .int (nI q)), (3, .ref sm)]) hx hb dX0_storeRemainders_1 hl (by decide) rfl (fun ls hl => ?_)
  have key_3 : ∀ (fuel : Nat) (t : Nat), (t ≤ n) → (n - t < fuel) → ∀ (H : Heap) (locs : List Loc) (ls : Array Slot), va_P (dC, dI) vwCl [(hh, .inr (0, [.ref lf, .ref rt, .ref rp])), (lf, .inl (cJ, 512, .inr (.inl (fun j => lI (F j))))), (sm, .inr (1, [.ref so])), (so, .inl (cO, 3, .inr (.inr (.inr (.inr g))))), (ra, .inl (cI, M, .inl (stR f F t)))] H → va_D A [(hh, .inr (0, [.ref lf, .ref rt, .ref rp])), (lf, .inl (cJ, 512, .inr (.inl (fun j => lI (F j))))), (sm, .inr (1, [.ref so])), (so, .inl (cO, 3, .inr (.inr (.inr (.inr g))))), (ra, .inl (cI, M, .inl (stR f F t)))] → va_S A s.heap H locs → lv_has ls 5 [(4, .int (nI t)), (3, .ref sm), (2, .int (nI q)), (1, .int (nI n)), (0, .ref hh)] → W p l e (headSpec wsX0_storeRemainders { frames := 1, cells := 0, slots := 0, locals := 24 }).room s m ([.ref hh, .int (nI n), .int (nI q), .ref sm] : List Value).toArray below meth c H locs 0 0 (MQ below (q_X0_storeRemainders dC dI cI cJ cO hh lf rt rp sm so ra g F f M n q  A) ([.ref hh, .int (nI n), .int (nI q), .ref sm] : List Value).toArray s 0 0 A) (F0 m 3 ls []) := by
    intro fuel
    induction fuel with
    | zero => intro t; intros; omega
    | succ fuel ih_3 =>
      intro t ht hfu H locs ls hP hD hS hl
      refine lv_iload hx hb dX0_storeRemainders_3 (lv_at hl 0 rfl) ?_
      refine lv_iload_n hx hb dX0_storeRemainders_5 rfl (lv_at hl 3 rfl) ?_
      refine lv_icmp_ge (tgt := 29) hx hb dX0_storeRemainders_6 (by decide) (fun c_1 => ?_) (fun c_1 => ?_)
      · have c_1 : n ≤ t := (nI_leI (a := n) (b := t) (by omega) (by omega)).mp c_1
        rw [show stR f F t = stR f F n from by rw [show t = n by omega]] at hP hD
        have hP : va_P (dC, dI) vwCl [(hh, .inr (0, [.ref lf, .ref rt, .ref rp])), (lf, .inl (cJ, 512, .inr (.inl (fun j => lI (F j))))), (sm, .inr (1, [.ref so])), (so, .inl (cO, 3, .inr (.inr (.inr (.inr g))))), (ra, .inl (cI, M, .inl (stR f F n)))] H := hP
        have hD : va_D A [(hh, .inr (0, [.ref lf, .ref rt, .ref rp])), (lf, .inl (cJ, 512, .inr (.inl (fun j => lI (F j))))), (sm, .inr (1, [.ref so])), (so, .inl (cO, 3, .inr (.inr (.inr (.inr g))))), (ra, .inl (cI, M, .inl (stR f F n)))] := hD
        have hP9 : va_P (dC, dI) vwCl [(hh, .inr (0, [.ref lf, .ref rt, .ref rp])), (lf, .inl (cJ, 512, .inr (.inl (fun j => lI (F j))))), (sm, .inr (1, [.ref so])), (so, .inl (cO, 3, .inr (.inr (.inr (.inr g))))), (ra, .inl (cI, M, .inl (stR f F n)))] H := hP.sub [0, 1, 2, 3, 4] rfl
        have hD9 : va_D A [(hh, .inr (0, [.ref lf, .ref rt, .ref rp])), (lf, .inl (cJ, 512, .inr (.inl (fun j => lI (F j))))), (sm, .inr (1, [.ref so])), (so, .inl (cO, 3, .inr (.inr (.inr (.inr g))))), (ra, .inl (cI, M, .inl (stR f F n)))] := hD.sub [0, 1, 2, 3, 4] (by decide) rfl
        exact W.vret hx hb hr (fun t ht hW => ⟨⟨(), rfl, trivial, by rw [ht]; exact hP9, hD9⟩, hS.F ht⟩) hS.2.2 dX0_storeRemainders_29
      · have c_1 : ¬ (n ≤ t) := fun zq9 => c_1 ((nI_leI (a := n) (b := t) (by omega) (by omega)).mpr zq9)
        refine lv_aload_n hx hb dX0_storeRemainders_9 rfl (lv_at hl 1 rfl) ?_
        refine lv_iload_n hx hb dX0_storeRemainders_10 rfl (lv_at hl 2 rfl) ?_
        refine lv_iload hx hb dX0_storeRemainders_11 (lv_at hl 0 rfl) ?_
        refine lv_aload_n hx hb dX0_storeRemainders_13 rfl (lv_at hl 4 rfl) ?_
        refine va_get (D := (dC, dI)) (ci := 0) (v := .ref lf) (C := RX0) (T := TX0) (N := 3) hx hb hts (by decide +kernel) hown hK hP 0 rfl rfl 0 (by decide) (hts (.fieldLink RX0 9 "ThreePrimes$Folder" "left" "[J") (by decide +kernel)) (fun _ h9 => h9) rfl dX0_storeRemainders_14 ?_
        refine lv_iload hx hb dX0_storeRemainders_17 (lv_at hl 0 rfl) ?_
        refine va_lald hx hb hK hP 1 1 rfl rfl (vp_in_nI (by omega) (by omega)) dX0_storeRemainders_19 ?_
        refine W.eq (g2 := F0 m _ ls [.long (lI (F t)), .int (nI t), .int (nI q), .ref sm]) (by rw [nI_clamp (by omega)]) ?_
        have hPc := hP.sub (ws' := [(sm, .inr (1, [.ref so])), (so, .inl (cO, 3, .inr (.inr (.inr (.inr g))))), (ra, .inl (cI, M, .inl (stR f F t)))]) [2, 3, 4] rfl
        have hDc := hD.sub (ws' := [(sm, .inr (1, [.ref so])), (so, .inl (cO, 3, .inr (.inr (.inr (.inr g))))), (ra, .inl (cI, M, .inl (stR f F t)))]) [2, 3, 4] (by decide) rfl
        have hKc := hK.sub (tys' := [(cI, .int), (cO, .array .int)]) [0, 2] rfl
        have hFc := va_free (wc := [(sm, .inr (1, [.ref so])), (so, .inl (cO, 3, .inr (.inr (.inr (.inr g))))), (ra, .inl (cI, M, .inl (stR f F t)))]) hD hS hA [2, 3, 4] rfl
        refine va_callv (va_runV (As := [.int (nI q), .int (nI t), .long (lI (F t))]) (rest := []) ⟨hx, hb, hml, hown, hts⟩ (c_X2_setRemainder l dC dI cI cO sm so ra g (stR f F t) M q t (F t) H.size hg (by omega) (by omega) (by omega)) (cwV 3 hts gX0_storeRemainders_X2_setRemainder rfl rfl rfl (by decide +kernel) ⟨Nat.le_of_ble_eq_true rfl, Nat.le_of_ble_eq_true rfl⟩) ⟨fun a U g mk q => by obtain ⟨q0, q1, qP, qK, qD⟩ := q; exact ⟨q0, q1, qP, va_K.moved (u := U) (U := U.calling g mk a) (Vm.Alike.refl U.vm) qK, qD⟩, va_recv hKc hPc (ci := 1) (q0 := 0) rfl rfl, fun U hU hW => ⟨rfl, by rw [hU], by rw [hU]; exact hPc, va_K.moved hW.alike hKc, hDc.weaken (fun _ _ _ _ => trivial)⟩⟩ rfl rfl hl.1 rfl (lv_room (Nat.le_of_ble_eq_true rfl)) dX0_storeRemainders_20 ⟨Nat.le_of_ble_eq_true rfl, Nat.le_of_ble_eq_true rfl⟩) hS (fun q _ h => hFc q h) hFc (fun u9 t9 H1 locs ht hvm hw hB hz1 hk1 hS => ?_)
        obtain ⟨hP1, hD1⟩ := hB
        rw [ht] at hP1
        try dsimp only at hw
        obtain ⟨hP, hD⟩ := va_join (wr := [(hh, .inr (0, [.ref lf, .ref rt, .ref rp])), (lf, .inl (cJ, 512, .inr (.inl (fun j => lI (F j)))))]) (w1 := [(sm, .inr (1, [.ref so])), (so, .inl (cO, 3, .inr (.inr (.inr (.inr g))))), (ra, .inl (cI, M, .inl (upd (stR f F t) t (iI (F t)))))]) hP hD [2, 3, 4] [0, 1] rfl rfl (by decide) (by decide) hk1 hFc hP1 hD1
        generalize H1 = H at hP hS ⊢
        have hP : va_P (dC, dI) vwCl [(hh, .inr (0, [.ref lf, .ref rt, .ref rp])), (lf, .inl (cJ, 512, .inr (.inl (fun j => lI (F j))))), (sm, .inr (1, [.ref so])), (so, .inl (cO, 3, .inr (.inr (.inr (.inr g))))), (ra, .inl (cI, M, .inl (upd (stR f F t) t (iI (F t)))))] H := hP
        have hD : va_D A [(hh, .inr (0, [.ref lf, .ref rt, .ref rp])), (lf, .inl (cJ, 512, .inr (.inl (fun j => lI (F j))))), (sm, .inr (1, [.ref so])), (so, .inl (cO, 3, .inr (.inr (.inr (.inr g))))), (ra, .inl (cI, M, .inl (upd (stR f F t) t (iI (F t)))))] := hD
        clear hPc hDc hKc hFc hP1 hD1 hk1 hz1 hvm ht
        clear hw
        rw [show upd (stR f F t) t (iI (F t)) = stR f F (t + 1) from stR_s] at hP hD
        have hP : va_P (dC, dI) vwCl [(hh, .inr (0, [.ref lf, .ref rt, .ref rp])), (lf, .inl (cJ, 512, .inr (.inl (fun j => lI (F j))))), (sm, .inr (1, [.ref so])), (so, .inl (cO, 3, .inr (.inr (.inr (.inr g))))), (ra, .inl (cI, M, .inl (stR f F (t + 1))))] H := hP
        have hD : va_D A [(hh, .inr (0, [.ref lf, .ref rt, .ref rp])), (lf, .inl (cJ, 512, .inr (.inl (fun j => lI (F j))))), (sm, .inr (1, [.ref so])), (so, .inl (cO, 3, .inr (.inr (.inr (.inr g))))), (ra, .inl (cI, M, .inl (stR f F (t + 1))))] := hD
        refine lv_iinc (v := nI (t + 1)) (lv' := [(4, .int (nI (t + 1))), (3, .ref sm), (2, .int (nI q)), (1, .int (nI n)), (0, .ref hh)]) hx hb dX0_storeRemainders_23 hl (k := 0) rfl (nI_add t 1) (by decide) rfl (fun ls hl => ?_)
        refine lv_goto (tgt := 3) hx hb dX0_storeRemainders_26 (by decide) ?_
        exact ih_3  (t + 1) (by omega) (by omega) _ _ _ (hP.sub [0, 1, 2, 3, 4] rfl) (hD.sub [0, 1, 2, 3, 4] (by decide) rfl) hS (lv_sub hl [0, 1, 2, 3, 4] rfl)
  exact key_3 (n + 1) 0 (by omega) (by omega) _ _ _ (hP.sub [0, 1, 2, 3, 4] rfl) (hD.sub [0, 1, 2, 3, 4] (by decide) rfl) hS (lv_sub hl [0, 4, 3, 2, 1] rfl)
end
section
/-! what stands around every call: the class's table of primes, the words and cells of a throw -/
def prN (q : Nat) : Nat := match q with
  | 0 => 998244353
  | 1 => 167772161
  | _ => 469762049
def prV (j : Nat) : Value := .int (nI (prN j))
def ngL : List Cond := (vx_atS RX3 49 "java/lang/IllegalArgumentException" ["java/lang/RuntimeException", "java/lang/Exception"]).filter (fun w => !goodWord w) ++ ((vx_atS RX3 126 "java/lang/IndexOutOfBoundsException" ["java/lang/RuntimeException", "java/lang/Exception"]).filter (fun w => !goodWord w) ++ (vx_atS RX3 115 "java/lang/IllegalStateException" ["java/lang/RuntimeException", "java/lang/Exception"]).filter (fun w => !goodWord w))
theorem ngL_ok : ngL.all (fun w => w.onTables && w.keepsFace) = true := by decide +kernel
theorem face_pass {w : Cond} (h1 : w.onTables = true) (h2 : w.keepsFace = true) {A A' : Array Value} {s U : State} (hW : s.WarmedH U.vm) (h : w.before A s = true) : w.before A' U = true := by
  have h3 := Cond.before_shiftedFace (State.Shifted.of_warmed hW) w h2 h
  rw [Cond.onTables_vm (A' := A') (U' := U) U.vm w h1, State.setVm_self] at h3
  exact h3
def va_AOA (ty : FieldType) (U : State) : Prop := (Cond.arrayOver (.array ty)).before #[] U = true
theorem va_AOA.of {ty : FieldType} {A : Array Value} {U : State} (h : (Cond.arrayOver (.array ty)).before A U = true) : va_AOA ty U := h
theorem va_AOA.use {ty : FieldType} {A : Array Value} {U : State} (h : va_AOA ty U) : (Cond.arrayOver (.array ty)).before A U = true := h
theorem va_AOA.moved {ty : FieldType} {u U : State} (hvm : u.vm.Alike U.vm) (h : va_AOA ty u) : va_AOA ty U := by
  obtain ⟨comp, c, k, h1, h2, h3, h4, h5⟩ := arrayOverA_spec h
  obtain ⟨k', hk', he⟩ := hvm.2.2 _ _ h3
  have hi : (U.vm.classes.findIdx? fun (x : Class) => match x.kind with | .array component _ => component == comp | _ => false) = some c := by
    have e1 := va_idx_bare U.vm comp
    have e2 := va_idx_bare u.vm comp
    have hbare : U.vm.bare = u.vm.bare := by first | exact hvm.bare_eq | exact hvm.bare_eq.symm
    rw [hbare] at e1
    exact e1.symm.trans (e2.trans h2)
  have hkind : k'.kind = .array comp (.array ty) := by rw [he]; exact h4
  have f1 : U.vm.findClass (FieldType.array ty).toString = some comp := by rw [hvm.findClass]; exact h1
  have f2 : U.vm.findClass ("[" ++ (FieldType.array ty).toString) = some c := by rw [hvm.findClass]; exact h5
  unfold va_AOA Cond.before Cond.holds
  simp only [Cond.value]
  rw [f1, Option.bind_some]
  refine (congrArg (fun o : Option Nat => (o.bind (fun c => (U.vm.classes[c]?).map fun (k : Class) => match k.kind with | .array _ ty' => decide (ty' = FieldType.array ty) && decide (U.vm.findClass ("[" ++ (FieldType.array ty).toString) = some c) | _ => false) == some true)) hi).trans ?_
  simp [hk', hkind, f2]
def ambW (U : State) : Prop := va_Nw (.fieldLinkNest RX0 21 RX3 "PRIMES" "[I" RX3) U ∧ va_Nw (.fieldLinkNest RX2 9 RX3 "PRIMES" "[I" RX3) U ∧ va_Nc "java/lang/IndexOutOfBoundsException" "java/lang/IllegalArgumentException" U ∧ va_AOA .int U
theorem ambW.warm {s U : State} (hW : s.WarmedH U.vm) (h : ambW s) : ambW U := ⟨h.1.warmF hW, h.2.1.warmF hW, h.2.2.1.moved hW.alike, h.2.2.2.moved hW.alike⟩
theorem ambW.same {u U : State} (hv : U.vm = u.vm) (h : ambW u) : ambW U := ⟨va_Nw.same rfl hv.symm h.1, va_Nw.same rfl hv.symm h.2.1, h.2.2.1.moved (by rw [hv]; exact Vm.Alike.refl _), h.2.2.2.moved (by rw [hv]; exact Vm.Alike.refl _)⟩
def amb (tP : Nat) (sa : Nat → Nat) (A : Nat → Prop) (U : State) (H : Heap) : Prop :=
  (va_Z RX3 "PRIMES" "[I" (.ref tP) A U H ∧ va_T .int tP 3 prV A U H ∧ vx_Zq Bundle.tN "UNASSIGNED_STACK" Bundle.steD A U H ∧ vx_Zq Bundle.tN "SUPPRESSED_SENTINEL" Bundle.listD A U H) ∧
  (vk_R RX3 47 "k is not 1 to 8" (sa 0) U ∧ vk_R RX3 59 "kind is not 0 to 2" (sa 1) U ∧ vk_R RX3 65 "e is not 1 to 1000" (sa 2) U ∧ vk_R RX3 113 "nothing was folded" (sa 3) U ∧ vk_R RX3 124 "there is no such place" (sa 4) U ∧ vk_R RX3 127 "there is no such result" (sa 5) U ∧ vk_R RX3 129 "prime is not 0 to 2" (sa 6) U) ∧
  (∀ w ∈ ngL, w.before #[] U = true) ∧ ambW U
theorem amb_pass {tP : Nat} {sa : Nat → Nat} {A A' : Nat → Prop} {s U : State} {H : Heap} {locs : List Loc} (h : amb tP sa A s s.heap) (hS : va_S A s.heap H locs) (hF : ∀ q, A' q → A q) (hW : s.WarmedH U.vm) (hU : U.heap = H) : amb tP sa A' U U.heap := by
  obtain ⟨⟨a1, a2, a3, a4⟩, ⟨b1, b2, b3, b4, b5, b6, b7⟩, c1, d1⟩ := h
  rw [hU]
  refine ⟨⟨((a1.kept hS.2.1).narrow hF).moved hW.alike, ((a2.kept hS.2.1).narrow hF).moved hW.alike, ((a3.kept hS.2.1).narrow hF).moved hW.alike, ((a4.kept hS.2.1).narrow hF).moved hW.alike⟩, ⟨b1.warm hW, b2.warm hW, b3.warm hW, b4.warm hW, b5.warm hW, b6.warm hW, b7.warm hW⟩, fun w hw => ?_, d1.warm hW⟩
  have h9 := List.all_eq_true.mp ngL_ok w hw
  simp only [Bool.and_eq_true] at h9
  exact face_pass h9.1 h9.2 hW (c1 w hw)
theorem amb_same {tP : Nat} {sa : Nat → Nat} {A : Nat → Prop} {U U' : State} (hv : U'.vm = U.vm) (hh : U'.heap = U.heap) (h : amb tP sa A U U.heap) : amb tP sa A U' U'.heap := by
  obtain ⟨⟨a1, a2, a3, a4⟩, ⟨b1, b2, b3, b4, b5, b6, b7⟩, c1, d1⟩ := h
  have hal : U.vm.Alike U'.vm := by rw [hv]; exact Vm.Alike.refl U.vm
  rw [hh]
  refine ⟨⟨a1.moved hal, a2.moved hal, a3.moved hal, a4.moved hal⟩, ⟨b1.same hv, b2.same hv, b3.same hv, b4.same hv, b5.same hv, b6.same hv, b7.same hv⟩, fun w hw => ?_, d1.same hv⟩
  have h9 := List.all_eq_true.mp ngL_ok w hw
  simp only [Bool.and_eq_true] at h9
  exact va_tabs h9.1 hv.symm (c1 w hw)
theorem kept_P {D : va_G} {cl : List vw_C} {ws : va_W} {H : Heap} {t : State} (hP : va_P D cl ws H) (hk : ∀ q : Nat, q < H.size → t.heap[q]? = H[q]?) : va_P D cl ws t.heap := hP.kept (fun k9 x hx => hk x.1 ((hP k9 x hx).lt))
theorem kept_F {A : Nat → Prop} {s t : State} {H : Heap} {locs : List Loc} (hS : va_S A s.heap H locs) (hz : H.size ≤ t.heap.size) (hk : ∀ q : Nat, q < H.size → t.heap[q]? = H[q]?) : va_F A s t := ⟨Nat.le_trans hS.1 hz, fun q h1 h2 => (hk q (Nat.lt_of_lt_of_le h1 hS.1)).trans (hS.2.1 q h1 h2)⟩
end
