section
-- ===== PART A: goes FIRST, ahead of the names: the tables' words, and 'selects' of the private methods out of them =====
/-- a private method of a class that the tables say can be made, by its rows of tables_1 -/
def lw_okq (q : MethodName × Nat) : Prop := (q.1.cls ≠ "java/lang/invoke/MethodHandle" ∧ q.1.cls ≠ "java/lang/invoke/VarHandle") ∧ Cond.instantiable q.1.cls q.2 ∈ tables_1 ∧ Cond.privateMethod q.1 ∈ tables_1 ∧ Cond.instanceMethod q.1 ∈ tables_1
theorem lw_p0 : lw_okq (⟨"PolicyVerifier", "isWellFormed", "(IIII)Z"⟩, 4) := ⟨⟨by decide +kernel, by decide +kernel⟩, List.mem_of_getElem? (i := 15) (by decide +kernel), List.mem_of_getElem? (i := 62) (by decide +kernel), List.mem_of_getElem? (i := 63) (by decide +kernel)⟩
theorem lw_p1 : lw_okq (⟨"PolicyVerifier", "isMade", "(I)Z"⟩, 4) := ⟨⟨by decide +kernel, by decide +kernel⟩, List.mem_of_getElem? (i := 15) (by decide +kernel), List.mem_of_getElem? (i := 66) (by decide +kernel), List.mem_of_getElem? (i := 67) (by decide +kernel)⟩
theorem lw_p2 : lw_okq (⟨"java/lang/Throwable", "fillInStackTrace", "(I)Ljava/lang/Throwable;"⟩, 6) := ⟨⟨by decide +kernel, by decide +kernel⟩, List.mem_of_getElem? (i := 109) (by decide +kernel), List.mem_of_getElem? (i := 107) (by decide +kernel), List.mem_of_getElem? (i := 108) (by decide +kernel)⟩
theorem lw_p3 : lw_okq (⟨"PolicyVerifier", "isFilter", "(IIII)Z"⟩, 4) := ⟨⟨by decide +kernel, by decide +kernel⟩, List.mem_of_getElem? (i := 15) (by decide +kernel), List.mem_of_getElem? (i := 165) (by decide +kernel), List.mem_of_getElem? (i := 166) (by decide +kernel)⟩
theorem lw_p4 : lw_okq (⟨"PolicyVerifier", "fillOutcomes", "([JIIII)V"⟩, 4) := ⟨⟨by decide +kernel, by decide +kernel⟩, List.mem_of_getElem? (i := 15) (by decide +kernel), List.mem_of_getElem? (i := 186) (by decide +kernel), List.mem_of_getElem? (i := 187) (by decide +kernel)⟩
theorem lw_p5 : lw_okq (⟨"PolicyVerifier", "joinedOutcome", "(IIIII)J"⟩, 4) := ⟨⟨by decide +kernel, by decide +kernel⟩, List.mem_of_getElem? (i := 15) (by decide +kernel), List.mem_of_getElem? (i := 205) (by decide +kernel), List.mem_of_getElem? (i := 206) (by decide +kernel)⟩
theorem lw_p6 : lw_okq (⟨"PolicyVerifier", "given", "(II)J"⟩, 4) := ⟨⟨by decide +kernel, by decide +kernel⟩, List.mem_of_getElem? (i := 15) (by decide +kernel), List.mem_of_getElem? (i := 209) (by decide +kernel), List.mem_of_getElem? (i := 210) (by decide +kernel)⟩
theorem lw_p7 : lw_okq (⟨"PolicyVerifier", "keep", "(LPolicyVerifier$Policy;)I"⟩, 4) := ⟨⟨by decide +kernel, by decide +kernel⟩, List.mem_of_getElem? (i := 15) (by decide +kernel), List.mem_of_getElem? (i := 222) (by decide +kernel), List.mem_of_getElem? (i := 223) (by decide +kernel)⟩
theorem lw_p8 : lw_okq (⟨"PolicyVerifier", "isNew", "([J)Z"⟩, 4) := ⟨⟨by decide +kernel, by decide +kernel⟩, List.mem_of_getElem? (i := 15) (by decide +kernel), List.mem_of_getElem? (i := 226) (by decide +kernel), List.mem_of_getElem? (i := 227) (by decide +kernel)⟩
theorem lw_p9 : lw_okq (⟨"PolicyVerifier", "find", "(I)LPolicyVerifier$Policy;"⟩, 4) := ⟨⟨by decide +kernel, by decide +kernel⟩, List.mem_of_getElem? (i := 15) (by decide +kernel), List.mem_of_getElem? (i := 241) (by decide +kernel), List.mem_of_getElem? (i := 242) (by decide +kernel)⟩
theorem lw_p10 : lw_okq (⟨"PolicyVerifier", "tableOf", "(LPolicyVerifier$Policy;)LPolicyVerifier$Table;"⟩, 4) := ⟨⟨by decide +kernel, by decide +kernel⟩, List.mem_of_getElem? (i := 15) (by decide +kernel), List.mem_of_getElem? (i := 313) (by decide +kernel), List.mem_of_getElem? (i := 314) (by decide +kernel)⟩
theorem lw_p11 : lw_okq (⟨"PolicyVerifier$Responses", "readPacket", "(IJ)V"⟩, 2) := ⟨⟨by decide +kernel, by decide +kernel⟩, List.mem_of_getElem? (i := 25) (by decide +kernel), List.mem_of_getElem? (i := 321) (by decide +kernel), List.mem_of_getElem? (i := 322) (by decide +kernel)⟩
theorem lw_p12 : lw_okq (⟨"PolicyVerifier$Table", "addRegion", "(LPolicyVerifier$Responses;II)V"⟩, 4) := ⟨⟨by decide +kernel, by decide +kernel⟩, List.mem_of_getElem? (i := 330) (by decide +kernel), List.mem_of_getElem? (i := 358) (by decide +kernel), List.mem_of_getElem? (i := 359) (by decide +kernel)⟩
theorem lw_p13 : lw_okq (⟨"PolicyVerifier$Table", "addRule", "(III)V"⟩, 4) := ⟨⟨by decide +kernel, by decide +kernel⟩, List.mem_of_getElem? (i := 330) (by decide +kernel), List.mem_of_getElem? (i := 366) (by decide +kernel), List.mem_of_getElem? (i := 367) (by decide +kernel)⟩
theorem lw_p14 : lw_okq (⟨"PolicyVerifierModel", "can", "(IIII)Z"⟩, 8) := ⟨⟨by decide +kernel, by decide +kernel⟩, List.mem_of_getElem? (i := 405) (by decide +kernel), List.mem_of_getElem? (i := 445) (by decide +kernel), List.mem_of_getElem? (i := 446) (by decide +kernel)⟩
theorem lw_p15 : lw_okq (⟨"PolicyVerifierModel", "made", "(I)Z"⟩, 8) := ⟨⟨by decide +kernel, by decide +kernel⟩, List.mem_of_getElem? (i := 405) (by decide +kernel), List.mem_of_getElem? (i := 452) (by decide +kernel), List.mem_of_getElem? (i := 453) (by decide +kernel)⟩
def lw_privs_1 : List (MethodName × Nat) := [(⟨"PolicyVerifier", "isWellFormed", "(IIII)Z"⟩, 4), (⟨"PolicyVerifier", "isMade", "(I)Z"⟩, 4), (⟨"java/lang/Throwable", "fillInStackTrace", "(I)Ljava/lang/Throwable;"⟩, 6), (⟨"PolicyVerifier", "isFilter", "(IIII)Z"⟩, 4), (⟨"PolicyVerifier", "fillOutcomes", "([JIIII)V"⟩, 4), (⟨"PolicyVerifier", "joinedOutcome", "(IIIII)J"⟩, 4), (⟨"PolicyVerifier", "given", "(II)J"⟩, 4), (⟨"PolicyVerifier", "keep", "(LPolicyVerifier$Policy;)I"⟩, 4), (⟨"PolicyVerifier", "isNew", "([J)Z"⟩, 4), (⟨"PolicyVerifier", "find", "(I)LPolicyVerifier$Policy;"⟩, 4), (⟨"PolicyVerifier", "tableOf", "(LPolicyVerifier$Policy;)LPolicyVerifier$Table;"⟩, 4), (⟨"PolicyVerifier$Responses", "readPacket", "(IJ)V"⟩, 2), (⟨"PolicyVerifier$Table", "addRegion", "(LPolicyVerifier$Responses;II)V"⟩, 4), (⟨"PolicyVerifier$Table", "addRule", "(III)V"⟩, 4), (⟨"PolicyVerifierModel", "can", "(IIII)Z"⟩, 8), (⟨"PolicyVerifierModel", "made", "(I)Z"⟩, 8)]
theorem lw_r1 : ∀ q ∈ lw_privs_1, lw_okq q := List.forall_mem_cons.mpr ⟨lw_p0, List.forall_mem_cons.mpr ⟨lw_p1, List.forall_mem_cons.mpr ⟨lw_p2, List.forall_mem_cons.mpr ⟨lw_p3, List.forall_mem_cons.mpr ⟨lw_p4, List.forall_mem_cons.mpr ⟨lw_p5, List.forall_mem_cons.mpr ⟨lw_p6, List.forall_mem_cons.mpr ⟨lw_p7, List.forall_mem_cons.mpr ⟨lw_p8, List.forall_mem_cons.mpr ⟨lw_p9, List.forall_mem_cons.mpr ⟨lw_p10, List.forall_mem_cons.mpr ⟨lw_p11, List.forall_mem_cons.mpr ⟨lw_p12, List.forall_mem_cons.mpr ⟨lw_p13, List.forall_mem_cons.mpr ⟨lw_p14, List.forall_mem_cons.mpr ⟨lw_p15, fun _ h => absurd h List.not_mem_nil⟩⟩⟩⟩⟩⟩⟩⟩⟩⟩⟩⟩⟩⟩⟩⟩
theorem lw_p16 : lw_okq (⟨"PolicyVerifierModel", "raise", "(I)I"⟩, 8) := ⟨⟨by decide +kernel, by decide +kernel⟩, List.mem_of_getElem? (i := 405) (by decide +kernel), List.mem_of_getElem? (i := 456) (by decide +kernel), List.mem_of_getElem? (i := 457) (by decide +kernel)⟩
theorem lw_p17 : lw_okq (⟨"PolicyVerifierModel", "worked", "(IIIII)J"⟩, 8) := ⟨⟨by decide +kernel, by decide +kernel⟩, List.mem_of_getElem? (i := 405) (by decide +kernel), List.mem_of_getElem? (i := 460) (by decide +kernel), List.mem_of_getElem? (i := 461) (by decide +kernel)⟩
theorem lw_p18 : lw_okq (⟨"PolicyVerifierModel", "all", "(IJ)J"⟩, 8) := ⟨⟨by decide +kernel, by decide +kernel⟩, List.mem_of_getElem? (i := 405) (by decide +kernel), List.mem_of_getElem? (i := 470) (by decide +kernel), List.mem_of_getElem? (i := 471) (by decide +kernel)⟩
theorem lw_p19 : lw_okq (⟨"PolicyVerifierModel", "star", "(II)J"⟩, 8) := ⟨⟨by decide +kernel, by decide +kernel⟩, List.mem_of_getElem? (i := 405) (by decide +kernel), List.mem_of_getElem? (i := 474) (by decide +kernel), List.mem_of_getElem? (i := 475) (by decide +kernel)⟩
theorem lw_p20 : lw_okq (⟨"PolicyVerifierModel", "passes", "(IIII)Z"⟩, 8) := ⟨⟨by decide +kernel, by decide +kernel⟩, List.mem_of_getElem? (i := 405) (by decide +kernel), List.mem_of_getElem? (i := 478) (by decide +kernel), List.mem_of_getElem? (i := 479) (by decide +kernel)⟩
theorem lw_p21 : lw_okq (⟨"PolicyVerifierModel", "apart", "(II)I"⟩, 8) := ⟨⟨by decide +kernel, by decide +kernel⟩, List.mem_of_getElem? (i := 405) (by decide +kernel), List.mem_of_getElem? (i := 502) (by decide +kernel), List.mem_of_getElem? (i := 503) (by decide +kernel)⟩
theorem lw_p22 : lw_okq (⟨"PolicyVerifierModel", "table", "(I)I"⟩, 8) := ⟨⟨by decide +kernel, by decide +kernel⟩, List.mem_of_getElem? (i := 405) (by decide +kernel), List.mem_of_getElem? (i := 519) (by decide +kernel), List.mem_of_getElem? (i := 520) (by decide +kernel)⟩
theorem lw_p23 : lw_okq (⟨"PolicyVerifierModel", "uniform", "(III)Z"⟩, 8) := ⟨⟨by decide +kernel, by decide +kernel⟩, List.mem_of_getElem? (i := 405) (by decide +kernel), List.mem_of_getElem? (i := 523) (by decide +kernel), List.mem_of_getElem? (i := 524) (by decide +kernel)⟩
theorem lw_p24 : lw_okq (⟨"PolicyVerifierModel", "respond", "(II)V"⟩, 8) := ⟨⟨by decide +kernel, by decide +kernel⟩, List.mem_of_getElem? (i := 405) (by decide +kernel), List.mem_of_getElem? (i := 527) (by decide +kernel), List.mem_of_getElem? (i := 528) (by decide +kernel)⟩
def lw_privs_2 : List (MethodName × Nat) := [(⟨"PolicyVerifierModel", "raise", "(I)I"⟩, 8), (⟨"PolicyVerifierModel", "worked", "(IIIII)J"⟩, 8), (⟨"PolicyVerifierModel", "all", "(IJ)J"⟩, 8), (⟨"PolicyVerifierModel", "star", "(II)J"⟩, 8), (⟨"PolicyVerifierModel", "passes", "(IIII)Z"⟩, 8), (⟨"PolicyVerifierModel", "apart", "(II)I"⟩, 8), (⟨"PolicyVerifierModel", "table", "(I)I"⟩, 8), (⟨"PolicyVerifierModel", "uniform", "(III)Z"⟩, 8), (⟨"PolicyVerifierModel", "respond", "(II)V"⟩, 8)]
theorem lw_r2 : ∀ q ∈ lw_privs_2, lw_okq q := List.forall_mem_cons.mpr ⟨lw_p16, List.forall_mem_cons.mpr ⟨lw_p17, List.forall_mem_cons.mpr ⟨lw_p18, List.forall_mem_cons.mpr ⟨lw_p19, List.forall_mem_cons.mpr ⟨lw_p20, List.forall_mem_cons.mpr ⟨lw_p21, List.forall_mem_cons.mpr ⟨lw_p22, List.forall_mem_cons.mpr ⟨lw_p23, List.forall_mem_cons.mpr ⟨lw_p24, fun _ h => absurd h List.not_mem_nil⟩⟩⟩⟩⟩⟩⟩⟩⟩
def lw_privs : List (MethodName × Nat) := lw_privs_1 ++ (lw_privs_2)
def lw_tbl : List Cond := k2_sels lw_privs ++ tables_1
theorem lw_privs_ok : ∀ q ∈ lw_privs, lw_okq q := by
  show ∀ q ∈ lw_privs_1 ++ (lw_privs_2), lw_okq q
  exact List.forall_mem_append.mpr ⟨lw_r1, lw_r2⟩
end
section
/-! ===== BEGIN words of one list among another's, by their places ===== -/
theorem goodIn_r {big : List Cond} (ws : List Cond) (ps : List Nat) (hp : ws = ps.filterMap (fun i => big[i]?)) (h : ws.all goodWord = true) : GoodIn big ws := by
  intro w hw
  have h1 := List.all_eq_true.mp h w hw
  rw [hp] at hw
  obtain ⟨i, -, hi⟩ := List.mem_filterMap.mp hw
  have hm : w ∈ big := by first | exact List.mem_of_getElem? hi | exact List.getElem?_mem hi
  exact ⟨hm, good_of_word h1⟩
theorem goodIn_app {big a b : List Cond} (ha : GoodIn big a) (hb : GoodIn big b) : GoodIn big (a ++ b) := fun w h => (List.mem_append.mp h).elim (ha w) (hb w)
theorem goodIn_ca {big a b : List Cond} {c : Cond} (ha : GoodIn big (c :: a)) (hb : GoodIn big b) : GoodIn big (c :: (a ++ b)) := fun w h => (List.mem_cons.mp h).elim (fun e => ha w (List.mem_cons.mpr (Or.inl e))) (fun h => (List.mem_append.mp h).elim (fun h => ha w (List.mem_cons.mpr (Or.inr h))) (hb w))
theorem goodIn_sub {big ws : List Cond} (hm : ∀ w ∈ ws, w ∈ big) (h : ws.all goodWord = true) : GoodIn big ws := fun w hw => ⟨hm w hw, good_of_word (List.all_eq_true.mp h w hw)⟩
/-! ===== END ===== -/

/-! ===== BEGIN exceptions that leave a method, and their catching by the caller (launches without stack traces) ===== -/
section VXA
/-! The laws vx_back, vx_callV, vx_callS, vx_callSW, vx_throw0, vx_throwS follow proofs of the library, with one case more: JvmDerived/Free/Laws.lean (Back.of_free), Shelf42/LK1.lean (callV, callS), Shelf/KitTraced.lean (throwNew0V, throwNewS). -/
/-- where a method has thrown q: the class by its name, the cell, what was written, the world -/
def vx_T (XC : String → State → State → Prop) (st : State) (q : Addr) (t : State) (mc ms : Nat) (free : Addr → Prop) : Prop :=
  ∃ (E : String) (ce : Cell) (L : List Loc), XC E st t ∧ t.heap[q]? = some ce ∧ ce.vm = .none ∧ st.vm.findClass E = some ce.cls ∧ st.WarmedH t.vm ∧ st.sameButNew ({ t with vm := st.vm } : State) L mc ms ∧ ∀ z ∈ L, free z.base
def vx_Q (Qc : Array Value → State → Outcome → State → Prop) (XC : String → State → State → Prop) (mc ms : Nat) (free : Addr → Prop) : Array Value → State → Outcome → State → Prop := fun a st o t =>
  (Qc a st o t ∧ ∃ L, FrameEnd st o t L mc ms ∧ ∀ q ∈ L, free q.base) ∨ ∃ q, o = .threw q ∧ vx_T XC st q t mc ms free
/-- a callee that returns or throws -/
def vx_Met (l : Launch) (y : MethodName) (ws : List Cond) (rm : Room) (Pc : Array Value → State → Prop) (Qc : Array Value → State → Outcome → State → Prop) (XC : String → State → State → Prop) (mc ms : Nat) (free : Addr → Prop) : Prop :=
  MetFree l y (headSpec ws rm) Pc (fun _ _ _ _ _ => True) (vx_Q Qc XC mc ms free)
def vx_Post (XC : String → State → State → Prop) (mc ms : Nat) (free : Addr → Prop) : Pt → Array Value → Addr → Pt → Prop := fun A a q B =>
  ∃ (g : JFrame) (mk : MethodId) (t : State) (L : List Loc) (E : String) (ce : Cell), B.U.heap = t.heap ∧ B.U.vm = t.vm ∧ XC E (A.U.calling g mk a) t ∧ t.heap[q]? = some ce ∧ ce.vm = .none ∧ A.U.vm.findClass E = some ce.cls ∧ B.locs = A.locs ++ L ∧ (∀ z ∈ L, free z.base) ∧ B.cells = A.cells + mc ∧ B.slots = A.slots + ms
def vx_Back (l : Launch) (R : Room) (p : Program) (e : Env) (below : List Frame) (s : State) (sargs : Array Value) (y : MethodName) (len W9 : Nat)
    (Pre : Pt → Array Value → Prop) (Post : Pt → Array Value → Option Value → Pt → Prop) (PostX : Pt → Array Value → Addr → Pt → Prop) : Prop :=
  ∀ (m : MethodId) (meth : Method) (c : Code) (A : Pt) (g : JFrame) (ig : Instr) (mk : MethodId) (a : Array Value),
    Stand p l e R s m sargs below meth c A.U A.locs A.cells A.slots → g.method = m → g.locals.size = c.maxLocals → decode c.code g.pc = .ok (ig, len) →
    2 * g.monitorRoom + (g.stack.map fun v => v.category).sum ≤ W9 → A.U.methodNamed? y = some mk → Pre A a →
    (∃ (v : Option Value) (B : Pt), Stand p l e R s m sargs below meth c B.U B.locs B.cells B.slots ∧ Post A a v B ∧
      Steps p.tables e below (doInvoke e (A.U.setTop g) [] mk a).1 (B.U.setTop { g with pc := g.pc + len, stack := v.toList ++ g.stack })) ∨
    (∃ (q : Addr) (B : Pt), Stand p l e R s m sargs below meth c B.U B.locs B.cells B.slots ∧ PostX A a q B ∧
      Steps p.tables e below (doInvoke e (A.U.setTop g) [] mk a).1 ((B.U.setTop g).pushFrame (.throwing q)))
section Payer
variable {l : Launch} {R : Room} {p : Program} {e : Env} {below : List Frame} {s : State} {sargs : Array Value} {y : MethodName} {len W9 : Nat}
theorem vx_back {ws : List Cond} {rm : Room} {Pc : Array Value → State → Prop} {Qc : Array Value → State → Outcome → State → Prop} {XC : String → State → State → Prop} {mc ms : Nat} {free : Addr → Prop} {bytes : ByteArray} {maxL : Nat} {ret : Option FieldType}
    (hM : vx_Met l y ws rm Pc Qc XC mc ms free) (hblind : FrameBlind Pc) (hrc : rm.cells = mc) (hrs : rm.slots = ms)
    (hframes : rm.frames + 1 ≤ R.frames) (hlocals : W9 + (maxL + 11) + rm.locals ≤ R.locals)
    (hws : ∀ w ∈ ws, ∀ a' U, s.WarmedH U.vm → w.before a' U = true) (hcode : Cond.code y bytes maxL ret ∈ ws) (hinit : ∀ a' U, s.WarmedH U.vm → (Cond.initialized y.cls).before a' U = true) :
    vx_Back l R p e below s sargs y len W9 (PreOf R mc ms Pc) (PostOf Qc mc ms free) (vx_Post XC mc ms free) := by
  intro m meth c A g ig mk a X hg hsize hdg hW hn hp
  have h1 : (headSpec ws rm).pre.before a A.U = true := atoms_intro fun w hw => hws w hw _ _ X.warmed
  have h2 : (Cond.code y bytes maxL ret).before a A.U = true := hws _ hcode _ _ X.warmed
  have h3 : (Cond.initialized y.cls).before a A.U = true := hinit _ _ X.warmed
  have h4 : A.cells + (headSpec ws rm).room.cells ≤ R.cells := by rw [show (headSpec ws rm).room.cells = mc from hrc]; exact hp.1
  have h5 : A.slots + (headSpec ws rm).room.slots ≤ R.slots := by rw [show (headSpec ws rm).room.slots = ms from hrs]; exact hp.2.1
  have hPc : Pc a (A.U.calling g mk a) := hblind _ _ _ _ hp.2.2
  obtain ⟨U, Ls, c0, s0⟩ := A
  dsimp only [Pt.U, Pt.locs, Pt.cells, Pt.slots] at h1 h2 h3 h4 h5 X hn hPc ⊢
  obtain ⟨methY, cY, hmY, hcY, -, hlY, -, -, -, -⟩ := Cond.code_spec hn h2
  obtain ⟨kY, hkY, -⟩ := className_of_methodNamed hn
  have hinitY : kY.init = .initialized := Cond.initialized_spec (findClass_of_methodNamed hn) hkY h3
  have h : At U g.method c below := by rw [hg]; exact X.here
  have hlocals9 : W9 + (maxL + 11) + (headSpec ws rm).room.locals ≤ R.locals := hlocals
  have happ : (headSpec ws rm).appliesLoose y e.platform (U.calling g mk a) = true :=
    Spec.appliesLoose_calling (g := g) h hdg hn hkY hinitY
      (X.room_calling (g := g) (R' := (headSpec ws rm).room) hsize hmY hcY hframes (by rw [hlY]; omega) h4 h5) h1
  obtain ⟨mid, hmid⟩ := h.above
  have hfr : (U.setTop g).frames = (.java g :: mid) ++ below := by rw [State.frames_setTop' g h.top, hmid]; rfl
  obtain ⟨o, s₂, hsteps, -, hend, hq⟩ := Steps.callFree hM p X.admits X.cas X.clock (acts := []) hfr happ hPc trivial
  have hq' : vx_Q Qc XC mc ms free a (U.calling g mk a) o s₂ := hq
  rw [State.frames_setTop' g h.top] at hend
  obtain ⟨g₀, hg0⟩ := Option.isSome_iff_exists.mp h.top
  obtain ⟨r, hr⟩ := State.topJava?_eq_some.mp hg0
  have hr' : (({ U with heap := s₂.heap, slotsUsed := s₂.slotsUsed } : State).setVm s₂.vm).frames = .java g₀ :: r := hr
  rcases hq' with ⟨hqc, L, hfe, hL⟩ | ⟨q, rfl, E, ce, L, hx, hce, hcv, hcl, hW₂, hsm, hL⟩
  · obtain ⟨⟨v, rfl⟩, hW₂, e2, q2, q3, q4, q5, q6⟩ := id hfe
    have e3 : s₂ = ({ (U.calling g mk a).setFrames s₂.frames with heap := s₂.heap, slotsUsed := s₂.slotsUsed } : State).setVm s₂.vm := by
      have : s₂ = ({ s₂ with vm := (U.calling g mk a).vm } : State).setVm s₂.vm := rfl
      rw [e2] at this
      exact this
    obtain ⟨c₂, i₂, len₂, hc₂, hd₂, hf₂⟩ := hend
    have hW' : U.WarmedH s₂.vm := hW₂
    have hcc : c₂ = c := by
      have h1 : s₂.code? g.method = U.code? g.method := by
        rw [State.code?_eq, State.code?_eq, hW'.alike.method?]
      exact Option.some.inj (hc₂.symm.trans (h1.trans h.code))
    subst hcc
    have hlen : len₂ = len := by rw [hdg] at hd₂; cases hd₂; rfl
    subst hlen
    have hs₂ : s₂ = (({ U with heap := s₂.heap, slotsUsed := s₂.slotsUsed } : State).setVm s₂.vm).setTop { g with pc := g.pc + len₂, stack := v.toList ++ g.stack } := by
      refine e3.trans ?_
      rw [hf₂, State.calling_eq h.top, State.setFrames_setFrames, State.setTop_of_frames _ hr', hr]
      rfl
    have hsame : U.sameButNew ({ U with heap := s₂.heap, slotsUsed := s₂.slotsUsed } : State) L mc ms := by
      refine ⟨?_, q2, q3, q4, q5, q6⟩
      obtain ⟨t, ht, -⟩ := State.frames_cons hr
      show ({ U with heap := s₂.heap, slotsUsed := s₂.slotsUsed } : State) = { U.setFrames U.frames with heap := s₂.heap, slotsUsed := s₂.slotsUsed }
      rw [State.setFrames_self ht]
    subst hg
    refine Or.inl ⟨v, ⟨(({ U with heap := s₂.heap, slotsUsed := s₂.slotsUsed } : State).setVm s₂.vm), Ls ++ L, c0 + mc, s0 + ms⟩,
      ⟨X.admits, X.cas, X.clock, X.frames, X.room, X.hears, X.method, X.code, (X.here.setHeapUsed s₂.heap s₂.slotsUsed).setVm hW'.alike, X.tail, State.WarmedH.trans X.warmed hW', X.limits, X.bytes, X.same.trans (hsame.setVm s.vm)⟩,
      ⟨g, mk, s₂, L, rfl, rfl, hqc, rfl, hL, rfl, rfl⟩, ?_⟩
    show Steps p.tables e below _ ((({ U with heap := s₂.heap, slotsUsed := s₂.slotsUsed } : State).setVm s₂.vm).setTop { g with pc := g.pc + len₂, stack := v.toList ++ g.stack })
    rw [← hs₂]
    exact hsteps
  · obtain ⟨e2, q2, q3, q4, q5, q6⟩ := id hsm
    have e3 : s₂ = ({ (U.calling g mk a).setFrames s₂.frames with heap := s₂.heap, slotsUsed := s₂.slotsUsed } : State).setVm s₂.vm := by
      have : s₂ = ({ s₂ with vm := (U.calling g mk a).vm } : State).setVm s₂.vm := rfl
      rw [e2] at this
      exact this
    have hf₂ : s₂.frames = .throwing q :: .java g :: U.frames.tail := hend
    have hW' : U.WarmedH s₂.vm := hW₂
    have hs₂ : s₂ = ((({ U with heap := s₂.heap, slotsUsed := s₂.slotsUsed } : State).setVm s₂.vm).setTop g).pushFrame (.throwing q) := by
      refine e3.trans ?_
      rw [hf₂, State.calling_eq h.top, State.setFrames_setFrames, State.pushFrame, State.frames_setTop _ hr', State.setTop_of_frames _ hr', State.setFrames_setFrames, hr]
      rfl
    have hsame : U.sameButNew ({ U with heap := s₂.heap, slotsUsed := s₂.slotsUsed } : State) L mc ms := by
      refine ⟨?_, q2, q3, q4, q5, q6⟩
      obtain ⟨t, ht, -⟩ := State.frames_cons hr
      show ({ U with heap := s₂.heap, slotsUsed := s₂.slotsUsed } : State) = { U.setFrames U.frames with heap := s₂.heap, slotsUsed := s₂.slotsUsed }
      rw [State.setFrames_self ht]
    subst hg
    refine Or.inr ⟨q, ⟨(({ U with heap := s₂.heap, slotsUsed := s₂.slotsUsed } : State).setVm s₂.vm), Ls ++ L, c0 + mc, s0 + ms⟩,
      ⟨X.admits, X.cas, X.clock, X.frames, X.room, X.hears, X.method, X.code, (X.here.setHeapUsed s₂.heap s₂.slotsUsed).setVm hW'.alike, X.tail, State.WarmedH.trans X.warmed hW', X.limits, X.bytes, X.same.trans (hsame.setVm s.vm)⟩,
      ⟨g, mk, s₂, L, E, ce, rfl, rfl, hx, hce, hcv, hcl, rfl, hL, rfl, rfl⟩, ?_⟩
    show Steps p.tables e below _ (((({ U with heap := s₂.heap, slotsUsed := s₂.slotsUsed } : State).setVm s₂.vm).setTop g).pushFrame (.throwing q))
    rw [← hs₂]
    exact hsteps
end Payer
section Calls
variable {p : Program} {l : Launch} {e : Env} {R : Room} {s : State} {m : MethodId} {args : Array Value} {below : List Frame} {meth : Method} {c : Code} {T : State} {locs : List Loc} {cells slots : Nat}
theorem vx_callV (X : Stand p l e R s m args below meth c T locs cells slots) (hexec : p.tables.exec = Jvm.exec) {own C : String} {index : Nat} {y : MethodName} {bytes : ByteArray} {maxL : Nat} {ret : Option FieldType}
    (hown : s.vm.findClass own = some m.cls) (hlink : (Cond.methodLink own index y).before args s = true) (hinst : (Cond.instanceMethod y).before args s = true) (hsel : (Cond.selects C y y).before args s = true)
    (hcode : (Cond.code y bytes maxL ret).before args s = true) (hy : y.cls ≠ "java/lang/invoke/MethodHandle" ∧ y.cls ≠ "java/lang/invoke/VarHandle")
    {W9 : Nat} {Pre : Pt → Array Value → Prop} {Post : Pt → Array Value → Option Value → Pt → Prop} {PostX : Pt → Array Value → Addr → Pt → Prop} (hK : vx_Back l R p e below s args y 3 W9 Pre Post PostX)
    {b : Addr} {cellB : Cell} (hcell : T.heap[b]? = some cellB) (hobj : cellB.vm.isStatics = false) (hcls : s.vm.findClass C = some cellB.cls)
    {g : JFrame} (hg : g.method = m) (hsize : g.locals.size = c.maxLocals) {argsL rest : List Value} (hlen : ∀ sig, parseMethodDescriptor y.desc = some sig → argsL.length = sig.parameters.length)
    (hstack : g.stack = argsL.reverse ++ .ref b :: rest) (hW : 2 * g.monitorRoom + (rest.map fun v => v.category).sum ≤ W9) (hdg : decode c.code g.pc = .ok (.invokevirtual index, 3))
    (hpre : ∀ vm₁, s.WarmedH vm₁ → Pre ⟨T.setVm vm₁, locs, cells, slots⟩ (Value.ref b :: argsL).toArray) :
    (∃ (v : Option Value) (vm₁ : Vm) (B : Pt), s.WarmedH vm₁ ∧ Stand p l e R s m args below meth c B.U B.locs B.cells B.slots ∧ Post ⟨T.setVm vm₁, locs, cells, slots⟩ (Value.ref b :: argsL).toArray v B ∧
      ∀ target, Steps p.tables e below (B.U.setTop { g with pc := g.pc + 3, stack := v.toList ++ rest }) target → Steps p.tables e below (T.setTop g) target) ∨
    (∃ (q : Addr) (vm₁ : Vm) (B : Pt), s.WarmedH vm₁ ∧ Stand p l e R s m args below meth c B.U B.locs B.cells B.slots ∧ PostX ⟨T.setVm vm₁, locs, cells, slots⟩ (Value.ref b :: argsL).toArray q B ∧
      Steps p.tables e below (T.setTop g) ((B.U.setTop { g with stack := rest }).pushFrame (.throwing q))) := by
  obtain ⟨mk, methM, hnamed, hmethM, hstM, habM⟩ := Cond.instanceMethod_spec hinst
  obtain ⟨methM', cM, hmethM', -, -, -, -, -, -, hsigM⟩ := Cond.code_spec hnamed hcode
  cases hmethM.symm.trans hmethM'
  obtain ⟨c2, r2, m2, q1, q2, q3, q4, kP, hkP, hkPi⟩ := Cond.selects_spec hsel
  cases hcls.symm.trans q1
  cases (State.methodFound?_of_named hnamed hy).symm.trans q2
  cases hnamed.symm.trans q3
  have hselP : selectMethod e.platform s.vm cellB.cls mk = .method mk := by rw [Launch.admits_selectMethod X.admits]; exact q4
  obtain ⟨vm₁, X₁, hstep₁⟩ := X.invokevirtual hexec hown hlink hnamed hmethM hstM hkP hkPi hy (a := b) (cell := cellB) hcell
    (fun z h => by rw [h] at hobj; cases hobj) hselP hmethM habM hkP hkPi (g := g) hg (argsL := argsL) (rest := rest) (hlen _ hsigM) hstack hdg
  rcases hK m meth c ⟨T.setVm vm₁, locs, cells, slots⟩ { g with stack := rest } (.invokevirtual index) mk (Value.ref b :: argsL).toArray X₁ hg hsize hdg hW (X₁.named hnamed) (hpre vm₁ X₁.warmed) with ⟨v, B, X', hpost, hsteps⟩ | ⟨q, B, X', hpost, hsteps⟩
  · exact Or.inl ⟨v, vm₁, B, X₁.warmed, X', hpost, fun target h => hstep₁ _ fun acts => by rw [doInvoke_state]; exact hsteps.trans h⟩
  · exact Or.inr ⟨q, vm₁, B, X₁.warmed, X', hpost, hstep₁ _ fun acts => by rw [doInvoke_state]; exact hsteps⟩
theorem vx_callS (X : Stand p l e R s m args below meth c T locs cells slots) (hexec : p.tables.exec = Jvm.exec) {own : String} {index : Nat} {y : MethodName} {bytes : ByteArray} {maxL : Nat} {ret : Option FieldType}
    (hown : s.vm.findClass own = some m.cls) (hlink : (Cond.methodLink own index y).before args s = true) (hstat : (Cond.static y).before args s = true) (hinit : (Cond.initialized y.cls).before args s = true)
    (hcode : (Cond.code y bytes maxL ret).before args s = true) (hy : y.cls ≠ "java/lang/invoke/MethodHandle" ∧ y.cls ≠ "java/lang/invoke/VarHandle")
    {W9 : Nat} {Pre : Pt → Array Value → Prop} {Post : Pt → Array Value → Option Value → Pt → Prop} {PostX : Pt → Array Value → Addr → Pt → Prop} (hK : vx_Back l R p e below s args y 3 W9 Pre Post PostX)
    {g : JFrame} (hg : g.method = m) (hsize : g.locals.size = c.maxLocals) {argsL rest : List Value} (hlen : ∀ sig, parseMethodDescriptor y.desc = some sig → argsL.length = sig.parameters.length)
    (hstack : g.stack = argsL.reverse ++ rest) (hW : 2 * g.monitorRoom + (rest.map fun v => v.category).sum ≤ W9) (hdg : decode c.code g.pc = .ok (.invokestatic index, 3))
    (hpre : ∀ vm₁, s.WarmedH vm₁ → Pre ⟨T.setVm vm₁, locs, cells, slots⟩ argsL.toArray) :
    (∃ (v : Option Value) (vm₁ : Vm) (B : Pt), s.WarmedH vm₁ ∧ Stand p l e R s m args below meth c B.U B.locs B.cells B.slots ∧ Post ⟨T.setVm vm₁, locs, cells, slots⟩ argsL.toArray v B ∧
      ∀ target, Steps p.tables e below (B.U.setTop { g with pc := g.pc + 3, stack := v.toList ++ rest }) target → Steps p.tables e below (T.setTop g) target) ∨
    (∃ (q : Addr) (vm₁ : Vm) (B : Pt), s.WarmedH vm₁ ∧ Stand p l e R s m args below meth c B.U B.locs B.cells B.slots ∧ PostX ⟨T.setVm vm₁, locs, cells, slots⟩ argsL.toArray q B ∧
      Steps p.tables e below (T.setTop g) ((B.U.setTop { g with stack := rest }).pushFrame (.throwing q))) := by
  obtain ⟨mk, hnamed⟩ := Cond.code_named hcode
  obtain ⟨methM, cM, hmethM, -, -, -, -, -, -, hsigM⟩ := Cond.code_spec hnamed hcode
  have hstatic : methM.isStatic = true := Cond.static_spec hnamed hmethM hstat
  obtain ⟨kP, hkP, -⟩ := className_of_methodNamed hnamed
  have hinitP : kP.init = .initialized := Cond.initialized_spec (findClass_of_methodNamed hnamed) hkP hinit
  obtain ⟨vm₁, X₁, hstep₁⟩ := X.invokestatic hexec hown hlink hnamed hmethM hstatic hkP hinitP hy (g := g) hg (argsL := argsL) (rest := rest) (hlen _ hsigM) hstack hdg
  rcases hK m meth c ⟨T.setVm vm₁, locs, cells, slots⟩ { g with stack := rest } (.invokestatic index) mk argsL.toArray X₁ hg hsize hdg hW (X₁.named hnamed) (hpre vm₁ X₁.warmed) with ⟨v, B, X', hpost, hsteps⟩ | ⟨q, B, X', hpost, hsteps⟩
  · exact Or.inl ⟨v, vm₁, B, X₁.warmed, X', hpost, fun target h => hstep₁ _ fun acts => by rw [doInvoke_state]; exact hsteps.trans h⟩
  · exact Or.inr ⟨q, vm₁, B, X₁.warmed, X', hpost, hstep₁ _ fun acts => by rw [doInvoke_state]; exact hsteps⟩
end Calls
theorem vx_cls {s : State} {T : State} {vm₁ : Vm} {E : String} {k : ClassId} (hW : s.WarmedH vm₁) (h : (T.setVm vm₁).vm.findClass E = some k) : s.vm.findClass E = some k := by
  have h1 : vm₁.findClass E = some k := h
  rw [hW.alike.findClass] at h1
  exact h1
/-- the method's frame g, with q thrown over it -/
def vx_W (p : Program) (l : Launch) (e : Env) (R : Room) (s : State) (m : MethodId) (args : Array Value) (below : List Frame) (meth : Method) (c : Code) (H : Heap) (locs : List Loc) (cells slots : Nat) (Q : State → Prop) (g : JFrame) (q : Addr) : Prop :=
  ∀ T : State, T.heap = H → Stand p l e R s m args below meth c T locs cells slots → ∃ t, Steps p.tables e below ((T.setTop g).pushFrame (.throwing q)) t ∧ Q t
def vx_Run (p : Program) (l : Launch) (e : Env) (R : Room) (s : State) (m : MethodId) (args : Array Value) (below : List Frame) (meth : Method) (c : Code) (H : Heap) (locs : List Loc) (cells slots mc ms : Nat) (g : JFrame) (rest : List Value) (Qa : State → Outcome → State → Prop) (XC : String → State → State → Prop) (free : Addr → Prop) : Prop :=
  ∀ T : State, T.heap = H → Stand p l e R s m args below meth c T locs cells slots →
    (∃ (v : Option Value) (st₀ t T' : State) (L : List Loc), st₀.heap = H ∧ Stand p l e R s m args below meth c T' (locs ++ L) (cells + mc) (slots + ms) ∧ (∀ q ∈ L, free q.base) ∧ T'.heap = t.heap ∧ T'.vm = t.vm ∧ Qa st₀ (.returned v) t ∧
      Goes p e below T g T' { g with pc := g.pc + 3, stack := v.toList ++ rest }) ∨
    (∃ (q : Addr) (st₀ t T' : State) (L : List Loc) (E : String) (ce : Cell), st₀.heap = H ∧ Stand p l e R s m args below meth c T' (locs ++ L) (cells + mc) (slots + ms) ∧ (∀ z ∈ L, free z.base) ∧ T'.heap = t.heap ∧ T'.vm = t.vm ∧ XC E st₀ t ∧ t.heap[q]? = some ce ∧ ce.vm = .none ∧ s.vm.findClass E = some ce.cls ∧
      Steps p.tables e below (T.setTop g) ((T'.setTop { g with stack := rest }).pushFrame (.throwing q)))
def vx_X {S : Type} (px : S → Prop) (B : String → S → State → Prop) (A : Nat → Prop) : String → State → State → Prop := fun E st t => ∃ u : S, px u ∧ B E u t ∧ va_F A st t
section Runs
variable {p : Program} {l : Launch} {e : Env} {R : Room} {s : State} {m : MethodId} {args : Array Value} {below : List Frame} {meth : Method} {c : Code} {H : Heap} {locs : List Loc} {cells slots : Nat}
variable {y : MethodName} {bytes cc : ByteArray} {maxL nL mc ms n index : Nat} {ret : Option FieldType} {ws : List Cond} {rm : Room} {Pc : Array Value → State → Prop} {Qc : Array Value → State → Outcome → State → Prop} {XC : String → State → State → Prop} {free : Addr → Prop} {Ts : List Cond} {own C : String} {b : Addr} {As rest : List Value} {g : JFrame}
theorem vx_callBack (cb : CallB R s args own index y bytes maxL ret ws rm mc ms n) (hM : vx_Met l y ws rm Pc Qc XC mc ms free) (hbl : FrameBlind Pc) : vx_Back l R p e below s args y 3 8 (PreOf R mc ms Pc) (PostOf Qc mc ms free) (vx_Post XC mc ms free) := by
  obtain ⟨hrc, hrs, hfr, hlo, hws, hcw, -, hini, -⟩ := cb
  exact vx_back (bytes := bytes) (maxL := maxL) (ret := ret) hM hbl hrc hrs hfr hlo hws hcw (fun a' U hW => word_at hW (Or.inl (by first | rfl | simp [Cond.onTables, Cond.keeps, Cond.steady])) hini)
theorem vx_runV (S : CallFix p m c cc nL s args Ts own) (hM : vx_Met l y ws rm Pc Qc XC mc ms free) (cw : CallW R s args own C index y bytes maxL ret ws rm mc ms n) (hp : PreV s H C b Pc As)
    (hg : g.method = m) (hn : As.length = n) (hsize : g.locals.size = nL) (hstack : g.stack = As.reverse ++ .ref b :: rest) (hW : 2 * g.monitorRoom + (rest.map fun v => v.category).sum ≤ 8) (hdg : decode cc g.pc = .ok (.invokevirtual index, 3)) (hf : cells + mc ≤ R.cells ∧ slots + ms ≤ R.slots) :
    vx_Run p l e R s m args below meth c H locs cells slots mc ms g rest (Qc (Value.ref b :: As).toArray) XC free := by
  have hK : vx_Back l R p e below s args y 3 8 (PreOf R mc ms Pc) (PostOf Qc mc ms free) (vx_Post XC mc ms free) := vx_callBack cw.1 hM hp.1
  obtain ⟨⟨-, -, -, -, -, -, hcode, -, hy, hlen, hl⟩, hin, hse⟩ := cw
  obtain ⟨hx, hb, hml, ho, -⟩ := S
  obtain ⟨-, ⟨cellB, hcB, hoB, hclB⟩, hPc⟩ := hp
  intro T hT X
  rcases vx_callV X hx (C := C) (bytes := bytes) (maxL := maxL) (ret := ret) ho hl hin hse hcode hy hK (by rw [hT]; exact hcB) hoB hclB hg (hsize.trans hml.symm) (argsL := As) (rest := rest) (fun sig h => hn.trans (hlen sig h)) hstack hW (by rw [hb]; exact hdg)
    (fun vm₁ hW₁ => ⟨hf.1, hf.2, hPc (T.setVm vm₁) hT hW₁⟩) with ⟨v, vm₁, ⟨U', l2, c2, s2⟩, hW₁, X', ⟨g', mk, t, L, e1, e2, hq, h1, hL, h2, h3⟩, st⟩ | ⟨q, vm₁, ⟨U', l2, c2, s2⟩, hW₁, X', ⟨g', mk, t, L, E, ce, e1, e2, hq, hce, hcv, hcl, h1, hL, h2, h3⟩, st⟩
  · dsimp only [Pt.U, Pt.locs, Pt.cells, Pt.slots] at X' e1 e2 h1 h2 h3 st
    subst h1; subst h2; subst h3
    exact Or.inl ⟨v, (T.setVm vm₁).calling g' mk (Value.ref b :: As).toArray, t, U', L, hT, X', hL, e1, e2, hq, st⟩
  · dsimp only [Pt.U, Pt.locs, Pt.cells, Pt.slots] at X' e1 e2 h1 h2 h3 st hcl
    subst h1; subst h2; subst h3
    exact Or.inr ⟨q, (T.setVm vm₁).calling g' mk (Value.ref b :: As).toArray, t, U', L, E, ce, hT, X', hL, e1, e2, hq, hce, hcv, vx_cls hW₁ hcl, st⟩
theorem vx_runS (S : CallFix p m c cc nL s args Ts own) (hM : vx_Met l y ws rm Pc Qc XC mc ms free) (cw : CallB R s args own index y bytes maxL ret ws rm mc ms n ∧ (Cond.static y).before args s = true) (hp : PreS s H Pc As)
    (hg : g.method = m) (hn : As.length = n) (hsize : g.locals.size = nL) (hstack : g.stack = As.reverse ++ rest) (hW : 2 * g.monitorRoom + (rest.map fun v => v.category).sum ≤ 8) (hdg : decode cc g.pc = .ok (.invokestatic index, 3)) (hf : cells + mc ≤ R.cells ∧ slots + ms ≤ R.slots) :
    vx_Run p l e R s m args below meth c H locs cells slots mc ms g rest (Qc As.toArray) XC free := by
  have hK : vx_Back l R p e below s args y 3 8 (PreOf R mc ms Pc) (PostOf Qc mc ms free) (vx_Post XC mc ms free) := vx_callBack cw.1 hM hp.1
  obtain ⟨⟨-, -, -, -, -, -, hcode, hini, hy, hlen, hl⟩, hstt⟩ := cw
  obtain ⟨hx, hb, hml, ho, -⟩ := S
  intro T hT X
  rcases vx_callS X hx (bytes := bytes) (maxL := maxL) (ret := ret) ho hl hstt hini hcode hy hK hg (hsize.trans hml.symm) (argsL := As) (rest := rest) (fun sig h => hn.trans (hlen sig h)) hstack hW (by rw [hb]; exact hdg)
    (fun vm₁ hW₁ => ⟨hf.1, hf.2, hp.2 (T.setVm vm₁) hT hW₁⟩) with ⟨v, vm₁, ⟨U', l2, c2, s2⟩, hW₁, X', ⟨g', mk, t, L, e1, e2, hq, h1, hL, h2, h3⟩, st⟩ | ⟨q, vm₁, ⟨U', l2, c2, s2⟩, hW₁, X', ⟨g', mk, t, L, E, ce, e1, e2, hq, hce, hcv, hcl, h1, hL, h2, h3⟩, st⟩
  · dsimp only [Pt.U, Pt.locs, Pt.cells, Pt.slots] at X' e1 e2 h1 h2 h3 st
    subst h1; subst h2; subst h3
    exact Or.inl ⟨v, (T.setVm vm₁).calling g' mk As.toArray, t, U', L, hT, X', hL, e1, e2, hq, st⟩
  · dsimp only [Pt.U, Pt.locs, Pt.cells, Pt.slots] at X' e1 e2 h1 h2 h3 st hcl
    subst h1; subst h2; subst h3
    exact Or.inr ⟨q, (T.setVm vm₁).calling g' mk As.toArray, t, U', L, E, ce, hT, X', hL, e1, e2, hq, hce, hcv, vx_cls hW₁ hcl, st⟩
end Runs
section Rows
variable {p : Program} {l : Launch} {e : Env} {R : Room} {s : State} {m : MethodId} {args : Array Value} {below : List Frame} {meth : Method} {c : Code} {H : Heap} {locs : List Loc} {cells slots : Nat} {Q : State → Prop}
variable {mc ms : Nat} {free : Addr → Prop} {A0 A1 : Nat → Prop} {H0 : Heap} {a : Array Value} {pc : Nat} {ls : Array Slot} {st0 rest : List Value}
theorem vx_keep {st₀ t T' : State} {L : List Loc} (h0 : st₀.heap = H) (e1 : T'.heap = t.heap) (hS : va_S A0 H0 H locs) (hA : ∀ q, q < H.size → A1 q → A0 q) (hf : ∀ q, free q → A0 q) (hL : ∀ q ∈ L, free q.base) (hF : va_F A1 st₀ t) :
    H.size ≤ T'.heap.size ∧ (∀ q : Nat, q < H.size → ¬ A1 q → T'.heap[q]? = H[q]?) ∧ va_S A0 H0 T'.heap (locs ++ L) := by
  obtain ⟨hz, hk⟩ := hF
  rw [h0] at hz hk
  exact ⟨by rw [e1]; exact hz, fun q h1 h2 => by rw [e1]; exact hk q h1 h2,
    ⟨Nat.le_trans hS.1 (by rw [e1]; exact hz), fun q h1 h2 => by rw [e1, hk q (Nat.lt_of_lt_of_le h1 hS.1) (fun z => h2 (hA q (Nat.lt_of_lt_of_le h1 hS.1) z))]; exact hS.2.1 q h1 h2, fun q hq => by
      rcases List.mem_append.mp hq with h | h
      · exact hS.2.2 q h
      · exact hf _ (hL q h)⟩⟩
theorem vx_calli {S SX : Type} {post : Int32 → S → Prop} {px : SX → Prop} {B : S → State → Prop} {BX : String → SX → State → Prop} {AX : Nat → Prop} (hr : vx_Run p l e R s m args below meth c H locs cells slots mc ms (F0 m pc ls st0) rest (va_Qi post B A1 a) (vx_X px BX AX) free) (hS : va_S A0 H0 H locs) (hA : ∀ q, q < H.size → A1 q → A0 q) (hf : ∀ q, free q → A0 q) (hAX : ∀ q, q < H.size → AX q → A0 q)
    (kx : ∀ (E : String) (ce : Cell) (q9 : Addr) (u : SX) (t : State) (H1 : Heap) (locs1 : List Loc), t.heap = H1 → s.vm.Alike t.vm → px u → BX E u t → H.size ≤ H1.size → (∀ q : Nat, q < H.size → ¬ AX q → H1[q]? = H[q]?) → va_S A0 H0 H1 locs1 → H1[q9]? = some ce → ce.vm = .none → s.vm.findClass E = some ce.cls → vx_W p l e R s m args below meth c H1 locs1 (cells + mc) (slots + ms) Q (F0 m pc ls rest) q9)
    (kk : ∀ (r : Int32) (u : S) (t : State) (H1 : Heap) (locs1 : List Loc), t.heap = H1 → s.vm.Alike t.vm → post r u → B u t → H.size ≤ H1.size → (∀ q : Nat, q < H.size → ¬ A1 q → H1[q]? = H[q]?) → va_S A0 H0 H1 locs1 → W p l e R s m args below meth c H1 locs1 (cells + mc) (slots + ms) Q (F0 m (pc + 3) ls (.int r :: rest))) : W p l e R s m args below meth c H locs cells slots Q (F0 m pc ls st0) := by
  intro T hT X
  rcases hr T hT X with ⟨v, st₀, t, T', L, h0, X', hL, e1, e2, ⟨⟨r, u, hv, hp, hb⟩, hF⟩, st⟩ | ⟨q, st₀, t, T', L, E, ce, h0, X', hL, e1, e2, ⟨u, hp, hb, hF⟩, hce, hcv, hcl, st⟩
  · cases hv
    obtain ⟨k1, k2, k3⟩ := vx_keep h0 e1 hS hA hf hL hF
    obtain ⟨t2, a1, b1⟩ := kk r u t T'.heap (locs ++ L) e1.symm (by rw [← e2]; exact X'.warmed.alike) hp hb k1 k2 k3 T' rfl X'
    exact ⟨t2, st t2 a1, b1⟩
  · obtain ⟨k1, k2, k3⟩ := vx_keep h0 e1 hS hAX hf hL hF
    obtain ⟨t2, a1, b1⟩ := kx E ce q u t T'.heap (locs ++ L) e1.symm (by rw [← e2]; exact X'.warmed.alike) hp hb k1 k2 k3 (by rw [e1]; exact hce) hcv hcl T' rfl X'
    exact ⟨t2, st.trans a1, b1⟩
theorem vx_calll {S SX : Type} {post : Int64 → S → Prop} {px : SX → Prop} {B : S → State → Prop} {BX : String → SX → State → Prop} {AX : Nat → Prop} (hr : vx_Run p l e R s m args below meth c H locs cells slots mc ms (F0 m pc ls st0) rest (va_Ql post B A1 a) (vx_X px BX AX) free) (hS : va_S A0 H0 H locs) (hA : ∀ q, q < H.size → A1 q → A0 q) (hf : ∀ q, free q → A0 q) (hAX : ∀ q, q < H.size → AX q → A0 q)
    (kx : ∀ (E : String) (ce : Cell) (q9 : Addr) (u : SX) (t : State) (H1 : Heap) (locs1 : List Loc), t.heap = H1 → s.vm.Alike t.vm → px u → BX E u t → H.size ≤ H1.size → (∀ q : Nat, q < H.size → ¬ AX q → H1[q]? = H[q]?) → va_S A0 H0 H1 locs1 → H1[q9]? = some ce → ce.vm = .none → s.vm.findClass E = some ce.cls → vx_W p l e R s m args below meth c H1 locs1 (cells + mc) (slots + ms) Q (F0 m pc ls rest) q9)
    (kk : ∀ (r : Int64) (u : S) (t : State) (H1 : Heap) (locs1 : List Loc), t.heap = H1 → s.vm.Alike t.vm → post r u → B u t → H.size ≤ H1.size → (∀ q : Nat, q < H.size → ¬ A1 q → H1[q]? = H[q]?) → va_S A0 H0 H1 locs1 → W p l e R s m args below meth c H1 locs1 (cells + mc) (slots + ms) Q (F0 m (pc + 3) ls (.long r :: rest))) : W p l e R s m args below meth c H locs cells slots Q (F0 m pc ls st0) := by
  intro T hT X
  rcases hr T hT X with ⟨v, st₀, t, T', L, h0, X', hL, e1, e2, ⟨⟨r, u, hv, hp, hb⟩, hF⟩, st⟩ | ⟨q, st₀, t, T', L, E, ce, h0, X', hL, e1, e2, ⟨u, hp, hb, hF⟩, hce, hcv, hcl, st⟩
  · cases hv
    obtain ⟨k1, k2, k3⟩ := vx_keep h0 e1 hS hA hf hL hF
    obtain ⟨t2, a1, b1⟩ := kk r u t T'.heap (locs ++ L) e1.symm (by rw [← e2]; exact X'.warmed.alike) hp hb k1 k2 k3 T' rfl X'
    exact ⟨t2, st t2 a1, b1⟩
  · obtain ⟨k1, k2, k3⟩ := vx_keep h0 e1 hS hAX hf hL hF
    obtain ⟨t2, a1, b1⟩ := kx E ce q u t T'.heap (locs ++ L) e1.symm (by rw [← e2]; exact X'.warmed.alike) hp hb k1 k2 k3 (by rw [e1]; exact hce) hcv hcl T' rfl X'
    exact ⟨t2, st.trans a1, b1⟩
theorem vx_callf {S SX : Type} {post : UInt32 → S → Prop} {px : SX → Prop} {B : S → State → Prop} {BX : String → SX → State → Prop} {AX : Nat → Prop} (hr : vx_Run p l e R s m args below meth c H locs cells slots mc ms (F0 m pc ls st0) rest (va_Qf post B A1 a) (vx_X px BX AX) free) (hS : va_S A0 H0 H locs) (hA : ∀ q, q < H.size → A1 q → A0 q) (hf : ∀ q, free q → A0 q) (hAX : ∀ q, q < H.size → AX q → A0 q)
    (kx : ∀ (E : String) (ce : Cell) (q9 : Addr) (u : SX) (t : State) (H1 : Heap) (locs1 : List Loc), t.heap = H1 → s.vm.Alike t.vm → px u → BX E u t → H.size ≤ H1.size → (∀ q : Nat, q < H.size → ¬ AX q → H1[q]? = H[q]?) → va_S A0 H0 H1 locs1 → H1[q9]? = some ce → ce.vm = .none → s.vm.findClass E = some ce.cls → vx_W p l e R s m args below meth c H1 locs1 (cells + mc) (slots + ms) Q (F0 m pc ls rest) q9)
    (kk : ∀ (r : UInt32) (u : S) (t : State) (H1 : Heap) (locs1 : List Loc), t.heap = H1 → s.vm.Alike t.vm → post r u → B u t → H.size ≤ H1.size → (∀ q : Nat, q < H.size → ¬ A1 q → H1[q]? = H[q]?) → va_S A0 H0 H1 locs1 → W p l e R s m args below meth c H1 locs1 (cells + mc) (slots + ms) Q (F0 m (pc + 3) ls (.float r :: rest))) : W p l e R s m args below meth c H locs cells slots Q (F0 m pc ls st0) := by
  intro T hT X
  rcases hr T hT X with ⟨v, st₀, t, T', L, h0, X', hL, e1, e2, ⟨⟨r, u, hv, hp, hb⟩, hF⟩, st⟩ | ⟨q, st₀, t, T', L, E, ce, h0, X', hL, e1, e2, ⟨u, hp, hb, hF⟩, hce, hcv, hcl, st⟩
  · cases hv
    obtain ⟨k1, k2, k3⟩ := vx_keep h0 e1 hS hA hf hL hF
    obtain ⟨t2, a1, b1⟩ := kk r u t T'.heap (locs ++ L) e1.symm (by rw [← e2]; exact X'.warmed.alike) hp hb k1 k2 k3 T' rfl X'
    exact ⟨t2, st t2 a1, b1⟩
  · obtain ⟨k1, k2, k3⟩ := vx_keep h0 e1 hS hAX hf hL hF
    obtain ⟨t2, a1, b1⟩ := kx E ce q u t T'.heap (locs ++ L) e1.symm (by rw [← e2]; exact X'.warmed.alike) hp hb k1 k2 k3 (by rw [e1]; exact hce) hcv hcl T' rfl X'
    exact ⟨t2, st.trans a1, b1⟩
theorem vx_calld {S SX : Type} {post : UInt64 → S → Prop} {px : SX → Prop} {B : S → State → Prop} {BX : String → SX → State → Prop} {AX : Nat → Prop} (hr : vx_Run p l e R s m args below meth c H locs cells slots mc ms (F0 m pc ls st0) rest (va_Qd post B A1 a) (vx_X px BX AX) free) (hS : va_S A0 H0 H locs) (hA : ∀ q, q < H.size → A1 q → A0 q) (hf : ∀ q, free q → A0 q) (hAX : ∀ q, q < H.size → AX q → A0 q)
    (kx : ∀ (E : String) (ce : Cell) (q9 : Addr) (u : SX) (t : State) (H1 : Heap) (locs1 : List Loc), t.heap = H1 → s.vm.Alike t.vm → px u → BX E u t → H.size ≤ H1.size → (∀ q : Nat, q < H.size → ¬ AX q → H1[q]? = H[q]?) → va_S A0 H0 H1 locs1 → H1[q9]? = some ce → ce.vm = .none → s.vm.findClass E = some ce.cls → vx_W p l e R s m args below meth c H1 locs1 (cells + mc) (slots + ms) Q (F0 m pc ls rest) q9)
    (kk : ∀ (r : UInt64) (u : S) (t : State) (H1 : Heap) (locs1 : List Loc), t.heap = H1 → s.vm.Alike t.vm → post r u → B u t → H.size ≤ H1.size → (∀ q : Nat, q < H.size → ¬ A1 q → H1[q]? = H[q]?) → va_S A0 H0 H1 locs1 → W p l e R s m args below meth c H1 locs1 (cells + mc) (slots + ms) Q (F0 m (pc + 3) ls (.double r :: rest))) : W p l e R s m args below meth c H locs cells slots Q (F0 m pc ls st0) := by
  intro T hT X
  rcases hr T hT X with ⟨v, st₀, t, T', L, h0, X', hL, e1, e2, ⟨⟨r, u, hv, hp, hb⟩, hF⟩, st⟩ | ⟨q, st₀, t, T', L, E, ce, h0, X', hL, e1, e2, ⟨u, hp, hb, hF⟩, hce, hcv, hcl, st⟩
  · cases hv
    obtain ⟨k1, k2, k3⟩ := vx_keep h0 e1 hS hA hf hL hF
    obtain ⟨t2, a1, b1⟩ := kk r u t T'.heap (locs ++ L) e1.symm (by rw [← e2]; exact X'.warmed.alike) hp hb k1 k2 k3 T' rfl X'
    exact ⟨t2, st t2 a1, b1⟩
  · obtain ⟨k1, k2, k3⟩ := vx_keep h0 e1 hS hAX hf hL hF
    obtain ⟨t2, a1, b1⟩ := kx E ce q u t T'.heap (locs ++ L) e1.symm (by rw [← e2]; exact X'.warmed.alike) hp hb k1 k2 k3 (by rw [e1]; exact hce) hcv hcl T' rfl X'
    exact ⟨t2, st.trans a1, b1⟩
theorem vx_callv {S SX : Type} {post : S → Prop} {px : SX → Prop} {B : S → State → Prop} {BX : String → SX → State → Prop} {AX : Nat → Prop} (hr : vx_Run p l e R s m args below meth c H locs cells slots mc ms (F0 m pc ls st0) rest (va_Qv post B A1 a) (vx_X px BX AX) free) (hS : va_S A0 H0 H locs) (hA : ∀ q, q < H.size → A1 q → A0 q) (hf : ∀ q, free q → A0 q) (hAX : ∀ q, q < H.size → AX q → A0 q)
    (kx : ∀ (E : String) (ce : Cell) (q9 : Addr) (u : SX) (t : State) (H1 : Heap) (locs1 : List Loc), t.heap = H1 → s.vm.Alike t.vm → px u → BX E u t → H.size ≤ H1.size → (∀ q : Nat, q < H.size → ¬ AX q → H1[q]? = H[q]?) → va_S A0 H0 H1 locs1 → H1[q9]? = some ce → ce.vm = .none → s.vm.findClass E = some ce.cls → vx_W p l e R s m args below meth c H1 locs1 (cells + mc) (slots + ms) Q (F0 m pc ls rest) q9)
    (kk : ∀ (u : S) (t : State) (H1 : Heap) (locs1 : List Loc), t.heap = H1 → s.vm.Alike t.vm → post u → B u t → H.size ≤ H1.size → (∀ q : Nat, q < H.size → ¬ A1 q → H1[q]? = H[q]?) → va_S A0 H0 H1 locs1 → W p l e R s m args below meth c H1 locs1 (cells + mc) (slots + ms) Q (F0 m (pc + 3) ls (rest))) : W p l e R s m args below meth c H locs cells slots Q (F0 m pc ls st0) := by
  intro T hT X
  rcases hr T hT X with ⟨v, st₀, t, T', L, h0, X', hL, e1, e2, ⟨⟨u, hv, hp, hb⟩, hF⟩, st⟩ | ⟨q, st₀, t, T', L, E, ce, h0, X', hL, e1, e2, ⟨u, hp, hb, hF⟩, hce, hcv, hcl, st⟩
  · cases hv
    obtain ⟨k1, k2, k3⟩ := vx_keep h0 e1 hS hA hf hL hF
    obtain ⟨t2, a1, b1⟩ := kk u t T'.heap (locs ++ L) e1.symm (by rw [← e2]; exact X'.warmed.alike) hp hb k1 k2 k3 T' rfl X'
    exact ⟨t2, st t2 a1, b1⟩
  · obtain ⟨k1, k2, k3⟩ := vx_keep h0 e1 hS hAX hf hL hF
    obtain ⟨t2, a1, b1⟩ := kx E ce q u t T'.heap (locs ++ L) e1.symm (by rw [← e2]; exact X'.warmed.alike) hp hb k1 k2 k3 (by rw [e1]; exact hce) hcv hcl T' rfl X'
    exact ⟨t2, st.trans a1, b1⟩
/-- caught by the row x of this method's table; the rows ahead don't take it -/
theorem vx_catch {own name : String} {E : String} {ce : Cell} {q : Addr} (hown : s.vm.findClass own = some m.cls) (pre : List ExceptionTableEntry) (x : ExceptionTableEntry) (suf : List ExceptionTableEntry) (hsplit : c.exceptionTable.toList = pre ++ x :: suf)
    (hpass : ∀ z ∈ pre, covers z pc = false ∨ (z.catchType ≠ 0 ∧ ∃ nm : String, (Cond.classLink own z.catchType nm).before args s = true ∧ va_Nc E nm s)) (hx : covers x pc = true) (h0 : x.catchType ≠ 0)
    (hlink : (Cond.classLink own x.catchType name).before args s = true) (hcast : (Cond.castable E name).before args s = true) (hcell : H[q]? = some ce) (hv : ce.vm = .none) (hcl : s.vm.findClass E = some ce.cls)
    (kk : W p l e R s m args below meth c H locs cells slots Q (F0 m x.handlerPc ls [.ref q])) : vx_W p l e R s m args below meth c H locs cells slots Q (F0 m pc ls rest) q := by
  intro T hT X
  have hpl : e.platform.magicAccessors = ({} : Platform).magicAccessors := by rw [X.admits.platform]
  obtain ⟨c3, c4, hc3, hc4, hasg⟩ := Cond.castable_spec hcast
  cases Option.some.inj (hc3.symm.trans hcl)
  obtain ⟨c5, hc5, hcl5⟩ := Cond.classLink_spec hown hlink e.platform hpl
  cases Option.some.inj (hc4.symm.trans hc5)
  obtain ⟨vm', X', st⟩ := X.thenCaughtThrough q (g := F0 m pc ls rest) rfl (Steps.refl _) (by rw [hT]; exact hcell) (by rw [hv]; rfl) (by obtain ⟨k9, h9, -⟩ := Vm.findClass_spec hcl; exact ⟨k9, h9⟩) pre x suf hsplit
    (fun z hz => by
      rcases hpass z hz with h | ⟨hz0, nm, hl1, hn1⟩
      · exact Or.inl h
      · obtain ⟨c6, hc6, hcl6⟩ := Cond.classLink_spec hown hl1 e.platform hpl
        obtain ⟨a8, b8, h1, h2, h3⟩ := hn1
        cases Option.some.inj (h1.symm.trans hcl)
        cases Option.some.inj (h2.symm.trans hc6)
        exact Or.inr ⟨hz0, _, hcl6, h3⟩) hx (Or.inr ⟨h0, c4, hcl5, hasg⟩)
  obtain ⟨t, a1, b1⟩ := kk (T.setVm vm') hT X'
  exact ⟨t, st.trans a1, b1⟩
end Rows
section Ends
variable {p : Program} {l : Launch} {e : Env} {R : Room} {s : State} {m : MethodId} {args : Array Value} {below : List Frame} {meth : Method} {c : Code} {H : Heap} {locs : List Loc} {cells slots : Nat} {Q : State → Prop}
variable {mc ms : Nat} {free : Addr → Prop} {A0 A1 : Nat → Prop} {H0 : Heap} {a : Array Value} {ls : Array Slot} {st0 rest : List Value}
variable {Qc : Array Value → State → Outcome → State → Prop} {XC : String → State → State → Prop}
/-- what a body that may throw owes at its end -/
def vx_MQ (below : List Frame) (Qc : Array Value → State → Outcome → State → Prop) (XC : String → State → State → Prop) (a : Array Value) (s : State) (mc ms : Nat) (free : Addr → Prop) : State → Prop := fun t =>
  ∃ o, t.status = .running ∧ Ended t below o ∧ vx_Q Qc XC mc ms free a s o t
theorem vx_ret {g : JFrame} {mc ms : Nat} (k : W p l e R s m args below meth c H locs cells slots (MQ below Qc args s mc ms free) g) : W p l e R s m args below meth c H locs cells slots (vx_MQ below Qc XC args s mc ms free) g := by
  intro T hT X
  obtain ⟨t, a1, o, b1, b2, b3, b4⟩ := k T hT X
  exact ⟨t, a1, o, b1, b2, Or.inl ⟨b3, b4⟩⟩
/-- not caught here: it goes on to the caller -/
theorem vx_widen {g : JFrame} {q : Addr} {k n : Nat} (h1 : cells ≤ k) (h2 : slots ≤ n) (kk : vx_W p l e R s m args below meth c H locs k n Q g q) : vx_W p l e R s m args below meth c H locs cells slots Q g q := fun T hT X => kk T hT (stand_widen X h1 h2)
theorem vx_out {pc : Nat} {E : String} {ce : Cell} {q : Addr} {mc ms : Nat} (hout : ∀ x ∈ c.exceptionTable.toList, covers x pc = false) (hlocks : meth.locks = false) (hcell : H[q]? = some ce) (hv : ce.vm = .none) (hcl : s.vm.findClass E = some ce.cls)
    (hx : ∀ t : State, t.heap = H → s.vm.Alike t.vm → XC E s t) (hf : ∀ z ∈ locs, free z.base) (hc : cells ≤ mc) (hs : slots ≤ ms) :
    vx_W p l e R s m args below meth c H locs cells slots (vx_MQ below Qc XC args s mc ms free) (F0 m pc ls rest) q := by
  intro T hT X
  obtain ⟨st1, hrun, hend, hW, hsm⟩ := X.leaveThrown q (g := F0 m pc ls rest) rfl rfl rfl hout hlocks
  have hcell9 : (T.setFrames (.throwing q :: below)).heap[q]? = some ce := by
    show T.heap[q]? = some ce
    rw [hT]; exact hcell
  exact ⟨_, st1, .threw q, hrun, hend, Or.inr ⟨q, rfl, E, ce, locs, hx _ hT hW.alike, hcell9, hv, hcl, hW, hsm.mono hc hs, hf⟩⟩
theorem vx_frame {U : State} {k n : Nat} (h : s.sameButNew ({ U with vm := s.vm } : State) locs k n) : s.heap.size ≤ U.heap.size ∧ ∀ q : Nat, q < s.heap.size → (∀ z ∈ locs, z.base ≠ q) → U.heap[q]? = s.heap[q]? := by
  obtain ⟨-, h2, -, -, -, h6⟩ := h
  refine ⟨h2, fun q hq hz => ?_⟩
  obtain ⟨c9, e1, e2, e3, e4⟩ := h6 q _ (Array.getElem?_eq_getElem hq)
  have hs : c9.slots = (s.heap[q]).slots := Array.ext_getElem? fun i => e4 i fun hm => hz _ hm rfl
  have h9 : c9 = s.heap[q] := by
    rw [hs] at e2
    exact e2
  have e5 : U.heap[q]? = some c9 := e1
  rw [e5, h9, Array.getElem?_eq_getElem hq]
/-- the words of a throw but the four that speak of the heap -/
def vx_no (w : Cond) : Bool := decide (w ≠ .isRef (.static Bundle.tN "UNASSIGNED_STACK" Bundle.steD)) && decide (w ≠ .isRef (.static Bundle.tN "SUPPRESSED_SENTINEL" Bundle.listD)) && decide (w ≠ .laysStatic Bundle.tN "UNASSIGNED_STACK" Bundle.steD) && decide (w ≠ .laysStatic Bundle.tN "SUPPRESSED_SENTINEL" Bundle.listD)
def vx_at0 (own : String) (ic : Nat) (X : String) (names : List String) : List Cond := (Bundle.ownAtoms0 own ic X names).filter vx_no
def vx_atS (own : String) (ic : Nat) (X : String) (names : List String) : List Cond := (Bundle.ownAtoms own ic X names).filter vx_no
/-- a word that the tables alone decide, or a good one -/
def vx_ot (w : Cond) : Bool := w.onTables || goodWord w
theorem vx_ot_at {args a' : Array Value} {s U : State} {w : Cond} (hW : s.WarmedH U.vm) (hvm : s.vm = U.vm) (hg : vx_ot w = true) (h : w.before args s = true) : w.before a' U = true := by
  simp only [vx_ot, Bool.or_eq_true] at hg
  rcases hg with hg | hg
  · exact va_tabs hg hvm h
  · exact word_at hW (good_of_word hg) h
/-- a list's words: the good ones out of the method's own list, the others by premises of their own -/
theorem vx_hat {args : Array Value} {s : State} {L B : List Cond} (h1 : ∀ w ∈ L.filter goodWord, w.before args s = true) (h2 : ∀ w ∈ L.filter (fun w => !goodWord w), w ∈ B) (h3 : ∀ w ∈ B, w.before args s = true) : ∀ w ∈ L, w.before args s = true := by
  intro w hw
  by_cases g : goodWord w = true
  · exact h1 w (List.mem_filter.mpr ⟨hw, g⟩)
  · refine h3 w (h2 w (List.mem_filter.mpr ⟨hw, ?_⟩))
    show (!goodWord w) = true
    cases hgw : goodWord w
    · rfl
    · exact absurd hgw g
theorem vx_c {args : Array Value} {s : State} {w : Cond} {B : List Cond} (h : w.before args s = true) (t : ∀ w ∈ B, w.before args s = true) : ∀ w' ∈ w :: B, w'.before args s = true := fun w' h' => (List.mem_cons.mp h').elim (fun e => by rw [e]; exact h) (t w')
theorem vx_n {args : Array Value} {s : State} : ∀ w ∈ ([] : List Cond), w.before args s = true := fun _ h => nomatch h
theorem vx_own {args : Array Value} {s : State} {L : List Cond} (h1 : ∀ w ∈ L.filter vx_no, w.before args s = true)
    (hU : (Cond.isRef (.static Bundle.tN "UNASSIGNED_STACK" Bundle.steD)).before args s = true) (hN : (Cond.isRef (.static Bundle.tN "SUPPRESSED_SENTINEL" Bundle.listD)).before args s = true)
    (lU : (Cond.laysStatic Bundle.tN "UNASSIGNED_STACK" Bundle.steD).before args s = true) (lN : (Cond.laysStatic Bundle.tN "SUPPRESSED_SENTINEL" Bundle.listD).before args s = true) : ∀ w ∈ L, w.before args s = true := by
  intro w hw
  by_cases e1 : w = .isRef (.static Bundle.tN "UNASSIGNED_STACK" Bundle.steD)
  · rw [e1]; exact hU
  · by_cases e2 : w = .isRef (.static Bundle.tN "SUPPRESSED_SENTINEL" Bundle.listD)
    · rw [e2]; exact hN
    · by_cases e3 : w = .laysStatic Bundle.tN "UNASSIGNED_STACK" Bundle.steD
      · rw [e3]; exact lU
      · by_cases e4 : w = .laysStatic Bundle.tN "SUPPRESSED_SENTINEL" Bundle.listD
        · rw [e4]; exact lN
        · exact h1 w (List.mem_filter.mpr ⟨hw, by unfold vx_no; rw [decide_eq_true e1, decide_eq_true e2, decide_eq_true e3, decide_eq_true e4]; rfl⟩)
/-- where a static field lies, its class's statics cell in H -/
def vx_L (C n d : String) (A : Nat → Prop) (U : State) (H : Heap) : Prop := ∃ (c : ClassId) (k : Class) (i : Nat) (f : Field) (a : Nat) (cell : Cell), U.vm.findClass C = some c ∧ U.fieldFound? C n d = some (c, k, i, f) ∧ f.isStatic = true ∧ k.statics = some a ∧ H[a]? = some cell ∧ cell.vm.isStatics = true ∧ cell.cls = c ∧ f.slot < cell.slots.size ∧ k.staticTypes[f.slot]? = some f.type ∧ ¬ A a
theorem vx_L.moved {C n d : String} {A : Nat → Prop} {u U : State} {H : Heap} (hvm : u.vm.Alike U.vm) (h : vx_L C n d A u H) : vx_L C n d A U H := by
  obtain ⟨c, k, i, f, a, cell, h1, h2, h3, h4, h5, h6, h7, h8, h9, h10⟩ := h
  obtain ⟨k', hi', he⟩ := State.fieldFound?_setVm hvm h2
  exact ⟨c, k', i, f, a, cell, by rw [hvm.findClass]; exact h1, hi', h3, by rw [he]; exact h4, h5, h6, h7, h8, by rw [he]; exact h9, h10⟩
theorem vx_L.kept {C n d : String} {A : Nat → Prop} {U : State} {H H1 : Heap} (h : vx_L C n d A U H) (hq : ∀ a : Nat, a < H.size → ¬ A a → H1[a]? = H[a]?) : vx_L C n d A U H1 := by
  obtain ⟨c, k, i, f, a, cell, h1, h2, h3, h4, h5, h6, h7, h8, h9, h10⟩ := h
  exact ⟨c, k, i, f, a, cell, h1, h2, h3, h4, by rw [hq a (Array.getElem?_eq_some_iff.mp h5).1 h10]; exact h5, h6, h7, h8, h9, h10⟩
theorem vx_L.narrow {C n d : String} {A B : Nat → Prop} {U : State} {H : Heap} (h : vx_L C n d A U H) (hAB : ∀ q, B q → A q) : vx_L C n d B U H := by
  obtain ⟨c, k, i, f, a, cell, h1, h2, h3, h4, h5, h6, h7, h8, h9, h10⟩ := h
  exact ⟨c, k, i, f, a, cell, h1, h2, h3, h4, h5, h6, h7, h8, h9, fun z => h10 (hAB _ z)⟩
theorem vx_L.word {C n d : String} {A : Nat → Prop} {s : State} {args : Array Value} (h : vx_L C n d A s s.heap) : (Cond.laysStatic C n d).before args s = true := by
  obtain ⟨c, k, i, f, a, cell, h1, h2, h3, h4, h5, h6, h7, h8, h9, -⟩ := h
  show (Cond.laysStatic C n d).holds args s none s [] = true
  exact Cond.laysStatic_of h1 h2 h3 h4 h5 h6 h7 h8 h9
/-- .. and what it holds: null or some reference -/
def vx_Zq (C n d : String) (A : Nat → Prop) (U : State) (H : Heap) : Prop := va_Zq C n d A U H ∧ vx_L C n d A U H
theorem vx_Zq.moved {C n d : String} {A : Nat → Prop} {u U : State} {H : Heap} (hvm : u.vm.Alike U.vm) (h : vx_Zq C n d A u H) : vx_Zq C n d A U H := ⟨va_Zq.moved hvm h.1, vx_L.moved hvm h.2⟩
theorem vx_Zq.kept {C n d : String} {A : Nat → Prop} {U : State} {H H1 : Heap} (h : vx_Zq C n d A U H) (hq : ∀ a : Nat, a < H.size → ¬ A a → H1[a]? = H[a]?) : vx_Zq C n d A U H1 := ⟨va_Zq.kept h.1 hq, vx_L.kept h.2 hq⟩
theorem vx_Zq.narrow {C n d : String} {A B : Nat → Prop} {U : State} {H : Heap} (h : vx_Zq C n d A U H) (hAB : ∀ q, B q → A q) : vx_Zq C n d B U H := ⟨va_Zq.narrow h.1 hAB, vx_L.narrow h.2 hAB⟩
theorem vx_Zqof {args : Array Value} {s : State} {C n d : String} {A : Nat → Prop} (hl : (Cond.laysStatic C n d).before args s = true) (hini : (Cond.initialized C).before args s = true) (h : (Cond.isRef (.static C n d)).before args s = true) (hA : ∀ a : Nat, a < s.heap.size → ¬ A a) : vx_Zq C n d A s s.heap := by
  refine ⟨va_Zqof hl hini h hA, ?_⟩
  obtain ⟨c, k, i, f, a, cell, h1, h2, h3, h4, h5, h6, h7, h8, h9⟩ := Cond.laysStatic_spec hl
  exact ⟨c, k, i, f, a, cell, h1, h2, h3, h4, h5, h6, h7, h8, h9, hA a (Array.getElem?_eq_some_iff.mp h5).1⟩
theorem vx_isRef {C n d : String} {v : Value} {A : Nat → Prop} {s : State} {args : Array Value} (h : va_Z C n d v A s s.heap) (hv : v.isRef = true) : (Cond.isRef (.static C n d)).before args s = true := by
  obtain ⟨cf, kf, fi, f, a, cell, h1, h2, h3, h4, h5, h6, h7, -⟩ := h
  have he : (Term.static C n d).eval args s none [] s = some v := by
    simp [Term.eval, State.fieldNamed?, h1, h2, h4, h5, h6, h7]
  simp only [Cond.before, Cond.holds, Cond.value, he]
  cases v <;> simp_all [Value.isRef]
theorem vx_isRefq {C n d : String} {A : Nat → Prop} {s : State} {args : Array Value} (h : va_Zq C n d A s s.heap) : (Cond.isRef (.static C n d)).before args s = true := by
  rcases h with h | ⟨t, h⟩
  · exact vx_isRef h rfl
  · exact vx_isRef h rfl
/-- the same frame, seen from here: as if the method were called anew in this heap -/
theorem vx_rebase {T : State} (X : Stand p l e R s m args below meth c T locs cells slots) {R' : Room} (hf : R'.frames ≤ R.frames) (hl : R'.locals ≤ R.locals) (hc : cells + R'.cells ≤ R.cells) (hs : slots + R'.slots ≤ R.slots) :
    Stand p l e R' ((T.setVm s.vm).setFrames (.invoking m args :: below)) m args below meth c T [] 0 0 := by
  have htop : (T.setVm s.vm).topJava?.isSome := X.here.top
  have hF : ((T.setVm s.vm).setFrames (.invoking m args :: below)).frames = .invoking m args :: below := State.frames_setFrames _ (State.cur_lt_of_top htop)
  obtain ⟨g₀, hg0⟩ := Option.isSome_iff_exists.mp htop
  obtain ⟨r, hr⟩ := State.topJava?_eq_some.mp hg0
  have hl9 : e.platform.stackLimits (T.setVm s.vm).me = e.platform.stackLimits s.me := X.limits
  have hb9 : (T.setVm s.vm).me.stackBytes = s.me.stackBytes := X.bytes
  refine ⟨X.admits, X.cas, X.clock, hF, ?_, X.hears, X.method, X.code, X.here, X.tail, X.warmed, ?_, ?_, ?_⟩
  · have h := X.room
    have hU : ((T.setVm s.vm).setFrames (.invoking m args :: below)).localsInUse = s.localsInUse := by
      rw [State.localsInUse_invoking hF (meth := meth) (c := c) X.method X.code, State.localsInUse_invoking X.frames X.method X.code]
    simp only [State.hasRoom, Bool.and_eq_true, decide_eq_true_eq] at h ⊢
    obtain ⟨⟨⟨⟨h1, h2, h3, h4, h5, h6⟩, h7⟩, h8⟩, h9⟩ := h
    rw [X.frames, List.length_cons] at h2 h3
    have q1 := X.heapSize
    have q2 := X.used
    simp only [hF, hU, List.length_cons, State.stackLimits_setFrames, State.stackBytes_setFrames, hl9, hb9]
    refine ⟨⟨⟨⟨by omega, by omega, by omega, by omega, by omega, h6⟩, ?_⟩, ?_⟩, X.book⟩
    · show T.heap.size + R'.cells ≤ e.platform.maxCells
      omega
    · show T.slotsUsed + R'.slots ≤ e.platform.maxSlots
      omega
  · rw [State.stackLimits_setFrames]; rfl
  · rw [State.stackBytes_setFrames]; rfl
  · refine ⟨?_, Nat.le_refl _, Nat.le_refl _, ?_, ?_, fun a c9 h9 => ⟨c9, h9, rfl, rfl, fun _ _ => rfl⟩⟩
    · obtain ⟨t, ht, -⟩ := State.frames_cons hr
      show T.setVm s.vm = { ((T.setVm s.vm).setFrames (.invoking m args :: below)).setFrames (T.setVm s.vm).frames with heap := T.heap, slotsUsed := T.slotsUsed }
      rw [State.setFrames_setFrames, State.setFrames_self ht]
      rfl
    · show T.slotsUsed = T.slotsUsed + ((T.heap.toList.drop T.heap.size).map (·.slots.size)).sum
      rw [List.drop_eq_nil_of_le (Nat.le_of_eq Array.length_toList)]
      rfl
    · show ((T.heap.toList.drop T.heap.size).map (·.slots.size)).sum ≤ 0
      rw [List.drop_eq_nil_of_le (Nat.le_of_eq Array.length_toList)]
      exact Nat.le_refl _
/-- 'throw new E()': new; dup; invokespecial; athrow -/
theorem vx_throw0 {cc : ByteArray} {pc : Nat} (hexec : p.tables.exec = Jvm.exec) (hb : c.code = cc) (hl : l.stackTraces = false) {own cls : String} {names : List String} {ik ic mc ms : Nat} {A : Nat → Prop}
    (hown : s.vm.findClass own = some m.cls) (hcls : Bundle.fit cls = true) (hnames : ∀ n ∈ names, Bundle.fit n = true)
    (hk : (Cond.classLink own ik cls).before args s = true) (hini : (Cond.initialized cls).before args s = true) (hat : ∀ w ∈ vx_at0 own ic cls names, w.before args s = true)
    (hgood : ∀ w ∈ Cond.classLink own ik cls :: Cond.initialized cls :: vx_at0 own ic cls names, vx_ot w = true)
    (hU : vx_Zq Bundle.tN "UNASSIGNED_STACK" Bundle.steD A s s.heap) (hN : vx_Zq Bundle.tN "SUPPRESSED_SENTINEL" Bundle.listD A s s.heap) (hS : va_S A s.heap H locs) (hsize : ls.size = c.maxLocals)
    (d0 : decode cc pc = .ok (.new ik, 3)) (d3 : decode cc (pc + 3) = .ok (.dup, 1)) (d4 : decode cc (pc + 4) = .ok (.invokespecial ic, 3)) (d7 : decode cc (pc + 7) = .ok (.athrow, 1))
    (hout : ∀ x ∈ c.exceptionTable.toList, covers x (pc + 7) = false)
    (hRframes : names.length + 3 < R.frames) (hRlocals : (rest.map fun v => v.category).sum + (13 * (names.length + 1) + 42) ≤ R.locals) (hRcells : cells + 1 ≤ R.cells) (hRslots : slots + 6 ≤ R.slots) (hlocks : meth.locks = false)
    (hx : ∀ t : State, s.vm.Alike t.vm → H.size ≤ t.heap.size → (∀ q : Nat, q < H.size → t.heap[q]? = H[q]?) → XC cls s t)
    (hf : ∀ z ∈ locs, free z.base) (hc : cells + 1 ≤ mc) (hs : slots + 6 ≤ ms) :
    W p l e R s m args below meth c H locs cells slots (vx_MQ below Qc XC args s mc ms free) (F0 m pc ls rest) := by
  intro T hT X
  have htr : e.platform.stackTraces = false := (show e.platform.stackTraces = l.stackTraces by rw [X.admits.platform]).trans hl
  have Y := vx_rebase X (R' := { frames := R.frames, locals := R.locals, cells := 1, slots := 6 }) (Nat.le_refl _) (Nat.le_refl _) hRcells hRslots
  obtain ⟨s', hA⟩ : ∃ z, z = (T.setVm s.vm).setFrames (.invoking m args :: below) := ⟨_, rfl⟩
  rw [← hA] at Y
  have hvm : s'.vm = s.vm := by rw [hA]; rfl
  have hhp : s'.heap = H := by rw [hA]; exact hT
  have hW0 : s.WarmedH s'.vm := by rw [hvm]; exact State.WarmedH.refl s
  have hat' : ∀ w ∈ vx_at0 own ic cls names, w.before args s' = true := fun w hw => vx_ot_at hW0 hvm.symm (hgood w (List.mem_cons_of_mem _ (List.mem_cons_of_mem _ hw))) (hat w hw)
  have hk' : (Cond.classLink own ik cls).before args s' = true := vx_ot_at hW0 hvm.symm (hgood _ List.mem_cons_self) hk
  have hini' : (Cond.initialized cls).before args s' = true := vx_ot_at hW0 hvm.symm (hgood _ (List.mem_cons_of_mem _ List.mem_cons_self)) hini
  have hU' : vx_Zq Bundle.tN "UNASSIGNED_STACK" Bundle.steD A s' s'.heap := by rw [hhp]; exact vx_Zq.moved hW0.alike (hU.kept hS.2.1)
  have hN' : vx_Zq Bundle.tN "SUPPRESSED_SENTINEL" Bundle.listD A s' s'.heap := by rw [hhp]; exact vx_Zq.moved hW0.alike (hN.kept hS.2.1)
  have h : ∀ w ∈ Bundle.ownAtoms0 own ic cls names, w.before args s' = true := vx_own hat' (vx_isRefq hU'.1) (vx_isRefq hN'.1) hU'.2.word hN'.2.word
  have hown' : s'.vm.findClass own = some m.cls := by rw [hvm]; exact hown
  have hins : (Cond.instantiable cls 6).before args s' = true := h _ (by simp [Bundle.ownAtoms0])
  obtain ⟨vm₁, cX, kX, hfX, hkX, -, -, X₁, st1⟩ := Y.newCold hexec (own := own) (C := cls) (index := ik) (n := 6) hown' hk' hins hini'
    (g := F0 m pc ls rest) rfl (by rw [hb]; exact d0) (Nat.le_refl _) (Nat.le_refl _)
  generalize hT1 : (T.setVm vm₁).pushCell { cls := cX, slots := kX.instanceTypes.map defaultValue, vm := .none } = T1 at X₁ st1
  have hcat : (Value.ref T.heap.size).category = 1 := rfl
  have hcellA : T1.heap[T.heap.size]? = some (freshCell cX kX) := by rw [← hT1]; exact State.heap_pushCell_size _ _
  have d3' : decode c.code (pc + 3) = .ok (.dup, 1) := by rw [hb]; exact d3
  obtain ⟨U, hsteps, hrun, hend, hW, hsame, ce, hce, hO⟩ := X₁.ctorThrow0 hexec htr (own := own) (cls := cls) (names := names) (ic := ic) hown' hcls hnames h (fun x hx => nomatch hx) hfX hkX hcellA (by rw [hhp, hT]; exact Nat.le_refl _)
    (g := { method := m, pc := pc + 4, locals := ls, stack := .ref T.heap.size :: .ref T.heap.size :: rest, locked := none }) rfl hsize rfl rfl (rest := rest) rfl
    (by rw [hb]; exact d4) (by rw [hb]; exact d7) hout hRframes (by simp only [List.map_cons, List.sum_cons, hcat]; omega) hlocks
  obtain ⟨f1, f2⟩ := vx_frame hsame
  rw [hhp] at f1 f2
  have hWs : s.WarmedH U.vm := State.WarmedH.trans hW0 hW
  have hcl : s.vm.findClass cls = some ce.cls := by
    have h9 := hO.cls
    rw [hvm] at h9
    exact h9
  have hall : s.sameButNew ({ U with vm := s.vm } : State) locs mc ms := by
    subst hA
    obtain ⟨e1, e2⟩ := hsame
    rw [State.setFrames_setFrames] at e1
    have h2 : (T.setVm s.vm).sameButNew ({ U with vm := s.vm } : State) [] (0 + 1) (0 + 6) := ⟨e1, e2⟩
    have h3 := X.same.trans h2
    rw [List.append_nil] at h3
    exact h3.mono hc hs
  refine ⟨U, ?_, .threw T.heap.size, hrun, hend, Or.inr ⟨T.heap.size, rfl, cls, ce, locs, hx U hWs.alike f1 (fun q hq => f2 q hq (fun z hz => nomatch hz)), hce, hO.vm, hcl, hWs, hall, hf⟩⟩
  refine st1 _ ?_
  show Steps p.tables e below (T1.setTop { method := m, pc := pc + 3, locals := ls, stack := .ref T.heap.size :: rest, locked := none }) _
  jvm_step X₁.here [X₁.here.top, hexec, d3', Value.category]
  exact hsteps
/-- 'throw new E("text")': new; dup; ldc; invokespecial; athrow -/
theorem vx_throwS {cc : ByteArray} {pc : Nat} (hexec : p.tables.exec = Jvm.exec) (hb : c.code = cc) (hl : l.stackTraces = false) {own cls text : String} {names : List String} {ik is ic mc ms sa : Nat} {A : Nat → Prop}
    (hown : s.vm.findClass own = some m.cls) (hcls : Bundle.fit cls = true) (hnames : ∀ n ∈ names, Bundle.fit n = true)
    (hk : (Cond.classLink own ik cls).before args s = true) (hini : (Cond.initialized cls).before args s = true) (hstr : vk_R own is text sa s) (hat : ∀ w ∈ vx_atS own ic cls names, w.before args s = true)
    (hgood : ∀ w ∈ Cond.classLink own ik cls :: Cond.initialized cls :: vx_atS own ic cls names, vx_ot w = true)
    (hU : vx_Zq Bundle.tN "UNASSIGNED_STACK" Bundle.steD A s s.heap) (hN : vx_Zq Bundle.tN "SUPPRESSED_SENTINEL" Bundle.listD A s s.heap) (hS : va_S A s.heap H locs) (hsize : ls.size = c.maxLocals)
    (d0 : decode cc pc = .ok (.new ik, 3)) (d3 : decode cc (pc + 3) = .ok (.dup, 1)) (d4 : decode cc (pc + 4) = .ok (.ldc is, 2)) (d6 : decode cc (pc + 6) = .ok (.invokespecial ic, 3)) (d9 : decode cc (pc + 9) = .ok (.athrow, 1))
    (hout : ∀ x ∈ c.exceptionTable.toList, covers x (pc + 9) = false)
    (hRframes : names.length + 3 < R.frames) (hRlocals : (rest.map fun v => v.category).sum + (13 * (names.length + 1) + 43) ≤ R.locals) (hRcells : cells + 1 ≤ R.cells) (hRslots : slots + 6 ≤ R.slots) (hlocks : meth.locks = false)
    (hx : ∀ t : State, s.vm.Alike t.vm → H.size ≤ t.heap.size → (∀ q : Nat, q < H.size → t.heap[q]? = H[q]?) → XC cls s t)
    (hf : ∀ z ∈ locs, free z.base) (hc : cells + 1 ≤ mc) (hs : slots + 6 ≤ ms) :
    W p l e R s m args below meth c H locs cells slots (vx_MQ below Qc XC args s mc ms free) (F0 m pc ls rest) := by
  intro T hT X
  have htr : e.platform.stackTraces = false := (show e.platform.stackTraces = l.stackTraces by rw [X.admits.platform]).trans hl
  have Y := vx_rebase X (R' := { frames := R.frames, locals := R.locals, cells := 1, slots := 6 }) (Nat.le_refl _) (Nat.le_refl _) hRcells hRslots
  obtain ⟨s', hA⟩ : ∃ z, z = (T.setVm s.vm).setFrames (.invoking m args :: below) := ⟨_, rfl⟩
  rw [← hA] at Y
  have hvm : s'.vm = s.vm := by rw [hA]; rfl
  have hhp : s'.heap = H := by rw [hA]; exact hT
  have hW0 : s.WarmedH s'.vm := by rw [hvm]; exact State.WarmedH.refl s
  have hat' : ∀ w ∈ vx_atS own ic cls names, w.before args s' = true := fun w hw => vx_ot_at hW0 hvm.symm (hgood w (List.mem_cons_of_mem _ (List.mem_cons_of_mem _ hw))) (hat w hw)
  have hk' : (Cond.classLink own ik cls).before args s' = true := vx_ot_at hW0 hvm.symm (hgood _ List.mem_cons_self) hk
  have hini' : (Cond.initialized cls).before args s' = true := vx_ot_at hW0 hvm.symm (hgood _ (List.mem_cons_of_mem _ List.mem_cons_self)) hini
  have hU' : vx_Zq Bundle.tN "UNASSIGNED_STACK" Bundle.steD A s' s'.heap := by rw [hhp]; exact vx_Zq.moved hW0.alike (hU.kept hS.2.1)
  have hN' : vx_Zq Bundle.tN "SUPPRESSED_SENTINEL" Bundle.listD A s' s'.heap := by rw [hhp]; exact vx_Zq.moved hW0.alike (hN.kept hS.2.1)
  have h : ∀ w ∈ Bundle.ownAtoms own ic cls names, w.before args s' = true := vx_own hat' (vx_isRefq hU'.1) (vx_isRefq hN'.1) hU'.2.word hN'.2.word
  have hown' : s'.vm.findClass own = some m.cls := by rw [hvm]; exact hown
  have hins : (Cond.instantiable cls 6).before args s' = true := h _ (by simp [Bundle.ownAtoms])
  obtain ⟨vm₁, cX, kX, hfX, hkX, -, -, X₁, st1⟩ := Y.newCold hexec (own := own) (C := cls) (index := ik) (n := 6) hown' hk' hins hini'
    (g := F0 m pc ls rest) rfl (by rw [hb]; exact d0) (Nat.le_refl _) (Nat.le_refl _)
  generalize hT1 : (T.setVm vm₁).pushCell { cls := cX, slots := kX.instanceTypes.map defaultValue, vm := .none } = T1 at X₁ st1
  have hcat : (Value.ref T.heap.size).category = 1 := rfl
  have hcellA : T1.heap[T.heap.size]? = some (freshCell cX kX) := by rw [← hT1]; exact State.heap_pushCell_size _ _
  have d3' : decode c.code (pc + 3) = .ok (.dup, 1) := by rw [hb]; exact d3
  have d4' : decode c.code (pc + 4) = .ok (.ldc is, 2) := by rw [hb]; exact d4
  have hstr' : vk_R own is text sa s' := vk_R.warm hW0 hstr
  obtain ⟨U, hsteps, hrun, hend, hW, hsame, ce, hce, hO⟩ := X₁.ctorThrowS hexec htr (own := own) (cls := cls) (names := names) (ic := ic) hown' hcls hnames h (fun x hx => nomatch hx) hfX hkX hcellA (by rw [hhp, hT]; exact Nat.le_refl _) (msg := .ref sa) rfl
    (g := { method := m, pc := pc + 6, locals := ls, stack := .ref sa :: .ref T.heap.size :: .ref T.heap.size :: rest, locked := none }) rfl hsize rfl rfl (rest := rest) rfl
    (by rw [hb]; exact d6) (by rw [hb]; exact d9) hout hRframes (by simp only [List.map_cons, List.sum_cons, hcat]; omega) hlocks
  obtain ⟨f1, f2⟩ := vx_frame hsame
  rw [hhp] at f1 f2
  have hWs : s.WarmedH U.vm := State.WarmedH.trans hW0 hW
  have hcl : s.vm.findClass cls = some ce.cls := by
    have h9 := hO.cls
    rw [hvm] at h9
    exact h9
  have hall : s.sameButNew ({ U with vm := s.vm } : State) locs mc ms := by
    subst hA
    obtain ⟨e1, e2⟩ := hsame
    rw [State.setFrames_setFrames] at e1
    have h2 : (T.setVm s.vm).sameButNew ({ U with vm := s.vm } : State) [] (0 + 1) (0 + 6) := ⟨e1, e2⟩
    have h3 := X.same.trans h2
    rw [List.append_nil] at h3
    exact h3.mono hc hs
  refine ⟨U, ?_, .threw T.heap.size, hrun, hend, Or.inr ⟨T.heap.size, rfl, cls, ce, locs, hx U hWs.alike f1 (fun q hq => f2 q hq (fun z hz => nomatch hz)), hce, hO.vm, hcl, hWs, hall, hf⟩⟩
  refine st1 _ ?_
  show Steps p.tables e below (T1.setTop { method := m, pc := pc + 3, locals := ls, stack := .ref T.heap.size :: rest, locked := none }) _
  jvm_step X₁.here [X₁.here.top, hexec, d3', Value.category]
  exact X₁.ldcString hexec (own := own) (text := text) (index := is) (a := sa) hown' hstr'.1 hstr'.2
    (g := { method := m, pc := pc + 4, locals := ls, stack := .ref T.heap.size :: .ref T.heap.size :: rest, locked := none }) rfl d4' _ hsteps
/-- 'throw new E("text")', the text by a wide index -/
theorem vx_throwSW {cc : ByteArray} {pc : Nat} (hexec : p.tables.exec = Jvm.exec) (hb : c.code = cc) (hl : l.stackTraces = false) {own cls text : String} {names : List String} {ik is ic mc ms sa : Nat} {A : Nat → Prop}
    (hown : s.vm.findClass own = some m.cls) (hcls : Bundle.fit cls = true) (hnames : ∀ n ∈ names, Bundle.fit n = true)
    (hk : (Cond.classLink own ik cls).before args s = true) (hini : (Cond.initialized cls).before args s = true) (hstr : vk_R own is text sa s) (hat : ∀ w ∈ vx_atS own ic cls names, w.before args s = true)
    (hgood : ∀ w ∈ Cond.classLink own ik cls :: Cond.initialized cls :: vx_atS own ic cls names, vx_ot w = true)
    (hU : vx_Zq Bundle.tN "UNASSIGNED_STACK" Bundle.steD A s s.heap) (hN : vx_Zq Bundle.tN "SUPPRESSED_SENTINEL" Bundle.listD A s s.heap) (hS : va_S A s.heap H locs) (hsize : ls.size = c.maxLocals)
    (d0 : decode cc pc = .ok (.new ik, 3)) (d3 : decode cc (pc + 3) = .ok (.dup, 1)) (d4 : decode cc (pc + 4) = .ok (.ldc_w is, 3)) (d7 : decode cc (pc + 7) = .ok (.invokespecial ic, 3)) (d10 : decode cc (pc + 10) = .ok (.athrow, 1))
    (hout : ∀ x ∈ c.exceptionTable.toList, covers x (pc + 10) = false)
    (hRframes : names.length + 3 < R.frames) (hRlocals : (rest.map fun v => v.category).sum + (13 * (names.length + 1) + 43) ≤ R.locals) (hRcells : cells + 1 ≤ R.cells) (hRslots : slots + 6 ≤ R.slots) (hlocks : meth.locks = false)
    (hx : ∀ t : State, s.vm.Alike t.vm → H.size ≤ t.heap.size → (∀ q : Nat, q < H.size → t.heap[q]? = H[q]?) → XC cls s t)
    (hf : ∀ z ∈ locs, free z.base) (hc : cells + 1 ≤ mc) (hs : slots + 6 ≤ ms) :
    W p l e R s m args below meth c H locs cells slots (vx_MQ below Qc XC args s mc ms free) (F0 m pc ls rest) := by
  intro T hT X
  have htr : e.platform.stackTraces = false := (show e.platform.stackTraces = l.stackTraces by rw [X.admits.platform]).trans hl
  have Y := vx_rebase X (R' := { frames := R.frames, locals := R.locals, cells := 1, slots := 6 }) (Nat.le_refl _) (Nat.le_refl _) hRcells hRslots
  obtain ⟨s', hA⟩ : ∃ z, z = (T.setVm s.vm).setFrames (.invoking m args :: below) := ⟨_, rfl⟩
  rw [← hA] at Y
  have hvm : s'.vm = s.vm := by rw [hA]; rfl
  have hhp : s'.heap = H := by rw [hA]; exact hT
  have hW0 : s.WarmedH s'.vm := by rw [hvm]; exact State.WarmedH.refl s
  have hat' : ∀ w ∈ vx_atS own ic cls names, w.before args s' = true := fun w hw => vx_ot_at hW0 hvm.symm (hgood w (List.mem_cons_of_mem _ (List.mem_cons_of_mem _ hw))) (hat w hw)
  have hk' : (Cond.classLink own ik cls).before args s' = true := vx_ot_at hW0 hvm.symm (hgood _ List.mem_cons_self) hk
  have hini' : (Cond.initialized cls).before args s' = true := vx_ot_at hW0 hvm.symm (hgood _ (List.mem_cons_of_mem _ List.mem_cons_self)) hini
  have hU' : vx_Zq Bundle.tN "UNASSIGNED_STACK" Bundle.steD A s' s'.heap := by rw [hhp]; exact vx_Zq.moved hW0.alike (hU.kept hS.2.1)
  have hN' : vx_Zq Bundle.tN "SUPPRESSED_SENTINEL" Bundle.listD A s' s'.heap := by rw [hhp]; exact vx_Zq.moved hW0.alike (hN.kept hS.2.1)
  have h : ∀ w ∈ Bundle.ownAtoms own ic cls names, w.before args s' = true := vx_own hat' (vx_isRefq hU'.1) (vx_isRefq hN'.1) hU'.2.word hN'.2.word
  have hown' : s'.vm.findClass own = some m.cls := by rw [hvm]; exact hown
  have hins : (Cond.instantiable cls 6).before args s' = true := h _ (by simp [Bundle.ownAtoms])
  obtain ⟨vm₁, cX, kX, hfX, hkX, -, -, X₁, st1⟩ := Y.newCold hexec (own := own) (C := cls) (index := ik) (n := 6) hown' hk' hins hini'
    (g := F0 m pc ls rest) rfl (by rw [hb]; exact d0) (Nat.le_refl _) (Nat.le_refl _)
  generalize hT1 : (T.setVm vm₁).pushCell { cls := cX, slots := kX.instanceTypes.map defaultValue, vm := .none } = T1 at X₁ st1
  have hcat : (Value.ref T.heap.size).category = 1 := rfl
  have hcellA : T1.heap[T.heap.size]? = some (freshCell cX kX) := by rw [← hT1]; exact State.heap_pushCell_size _ _
  have d3' : decode c.code (pc + 3) = .ok (.dup, 1) := by rw [hb]; exact d3
  have d4' : decode c.code (pc + 4) = .ok (.ldc_w is, 3) := by rw [hb]; exact d4
  have hstr' : vk_R own is text sa s' := vk_R.warm hW0 hstr
  obtain ⟨U, hsteps, hrun, hend, hW, hsame, ce, hce, hO⟩ := X₁.ctorThrowS hexec htr (own := own) (cls := cls) (names := names) (ic := ic) hown' hcls hnames h (fun x hx => nomatch hx) hfX hkX hcellA (by rw [hhp, hT]; exact Nat.le_refl _) (msg := .ref sa) rfl
    (g := { method := m, pc := pc + 7, locals := ls, stack := .ref sa :: .ref T.heap.size :: .ref T.heap.size :: rest, locked := none }) rfl hsize rfl rfl (rest := rest) rfl
    (by rw [hb]; exact d7) (by rw [hb]; exact d10) hout hRframes (by simp only [List.map_cons, List.sum_cons, hcat]; omega) hlocks
  obtain ⟨f1, f2⟩ := vx_frame hsame
  rw [hhp] at f1 f2
  have hWs : s.WarmedH U.vm := State.WarmedH.trans hW0 hW
  have hcl : s.vm.findClass cls = some ce.cls := by
    have h9 := hO.cls
    rw [hvm] at h9
    exact h9
  have hall : s.sameButNew ({ U with vm := s.vm } : State) locs mc ms := by
    subst hA
    obtain ⟨e1, e2⟩ := hsame
    rw [State.setFrames_setFrames] at e1
    have h2 : (T.setVm s.vm).sameButNew ({ U with vm := s.vm } : State) [] (0 + 1) (0 + 6) := ⟨e1, e2⟩
    have h3 := X.same.trans h2
    rw [List.append_nil] at h3
    exact h3.mono hc hs
  refine ⟨U, ?_, .threw T.heap.size, hrun, hend, Or.inr ⟨T.heap.size, rfl, cls, ce, locs, hx U hWs.alike f1 (fun q hq => f2 q hq (fun z hz => nomatch hz)), hce, hO.vm, hcl, hWs, hall, hf⟩⟩
  refine st1 _ ?_
  show Steps p.tables e below (T1.setTop { method := m, pc := pc + 3, locals := ls, stack := .ref T.heap.size :: rest, locked := none }) _
  jvm_step X₁.here [X₁.here.top, hexec, d3', Value.category]
  exact X₁.ldcStringW hexec (own := own) (text := text) (index := is) (a := sa) hown' hstr'.1 hstr'.2
    (g := { method := m, pc := pc + 4, locals := ls, stack := .ref T.heap.size :: .ref T.heap.size :: rest, locked := none }) rfl d4' _ hsteps
end Ends
section Bodies
variable {l : Launch}
theorem vx_ofW {y : MethodName} {ws ws' : List Cond} {rm : Room} {Pc : Array Value → State → Prop} {Qc : Array Value → State → Outcome → State → Prop} {XC : String → State → State → Prop} {mc ms : Nat} {free : Addr → Prop} {cc : ByteArray} {maxL : Nat} {ret : Option FieldType}
    (hy : plainName y.cls = true) (hw : ws = Cond.code y cc maxL ret :: ws')
    (body : ∀ p e s m args below meth c s₁, BodyLoose p l y (headSpec ws rm) cc maxL ret e s m args below meth c s₁ → c.maxLocals = maxL → (∀ x ∈ c.exceptionTable.toList, False) → Pc args s →
      W p l e (headSpec ws rm).room s m args below meth c s.heap [] 0 0 (vx_MQ below Qc XC args s mc ms free) (entryFrame m args maxL)) : vx_Met l y ws rm Pc Qc XC mc ms free := by
  refine MetFree.of_bodyS (code := cc) (maxLocals := maxL) (ret := ret) hy ?_ ?_
  · intro args s m h hn
    obtain ⟨meth, c, h1, h2, h3, h4, h5, h6, -, -⟩ := Cond.code_spec hn (atoms_spec (ws := ws) h _ (by rw [hw]; exact List.mem_cons_self))
    exact ⟨meth, c, h1, h2, h3, h4, h5, h6⟩
  · intro p e s m args below meth c s₁ B hml hP _
    have hh0 : s₁.heap = s.heap := by rw [B.state]; rfl
    have ht : ∀ x ∈ c.exceptionTable.toList, False := by
      obtain ⟨meth9, c9, h1, h2, -, -, -, -, h7, -⟩ := Cond.code_spec B.named (atoms_spec (ws := ws) B.pre _ (by rw [hw]; exact List.mem_cons_self))
      cases Option.some.inj (h1.symm.trans B.method)
      cases Option.some.inj (h2.symm.trans (Stand.of_body B).code)
      intro x hx
      rw [Array.isEmpty_iff.mp h7] at hx
      cases hx
    obtain ⟨t, a1, o, b1, b2, b3⟩ := body p e s m args below meth c s₁ B hml ht hP s₁ hh0 (Stand.of_body B)
    exact ⟨t, o, a1, b1, b2, b3⟩
/-- the table of a body with handlers -/
theorem vx_table {p : Program} {x y : MethodName} {S : Spec} {cc bytes : ByteArray} {maxL maxL' : Nat} {ret ret' : Option FieldType} {e : Env} {s s₁ : State} {m : MethodId} {args : Array Value} {below : List Frame} {meth : Method} {c : Code} {hh : List (Nat × Nat × Nat × Nat)}
    (B : BodyLoose p l y S cc maxL ret e s m args below meth c s₁) (h : (Cond.codeWith y bytes maxL' ret' hh).before args s = true) : c.exceptionTable.toList = tableOf hh := by
  obtain ⟨m9, meth9, c9, hn9, h1, h2, -, -, h6, -⟩ := Cond.codeWith_spec h
  cases Option.some.inj (hn9.symm.trans B.named)
  cases Option.some.inj (h1.symm.trans B.method)
  cases Option.some.inj (h2.symm.trans (Stand.of_body B).code)
  rw [← h6, table_eq]
end Bodies
end VXA
/-! ===== END ===== -/
/-! ===== BEGIN a static call of a method with an exception table ===== -/
section VXS
variable {p : Program} {l : Launch} {e : Env} {R : Room} {s : State} {m : MethodId} {args : Array Value} {below : List Frame} {meth : Method} {c : Code} {T : State} {H : Heap} {locs : List Loc} {cells slots : Nat}
abbrev vx_CSW (R : Room) (s : State) (args : Array Value) (own : String) (index : Nat) (y : MethodName) (bytes : ByteArray) (maxL : Nat) (ret : Option FieldType) (hh : List (Nat × Nat × Nat × Nat)) (ws : List Cond) (rm : Room) (mc ms n : Nat) : Prop :=
  (rm.cells = mc ∧ rm.slots = ms ∧ rm.frames + 1 ≤ R.frames ∧ 8 + (maxL + 11) + rm.locals ≤ R.locals ∧ (∀ w ∈ ws, ∀ (a' : Array Value) (U : State), s.WarmedH U.vm → w.before a' U = true) ∧ Cond.codeWith y bytes maxL ret hh ∈ ws) ∧
  (Cond.codeWith y bytes maxL ret hh).before args s = true ∧ (Cond.initialized y.cls).before args s = true ∧ (y.cls ≠ "java/lang/invoke/MethodHandle" ∧ y.cls ≠ "java/lang/invoke/VarHandle") ∧
  (∀ sig, parseMethodDescriptor y.desc = some sig → n = sig.parameters.length) ∧ (Cond.methodLink own index y).before args s = true ∧ (Cond.static y).before args s = true
theorem vx_cwSW {own : String} {index maxL mc ms : Nat} {y : MethodName} {bytes : ByteArray} {ret : Option FieldType} {hh : List (Nat × Nat × Nat × Nat)} {Ts ws ws' : List Cond} {rm : Room} (n : Nat) (ht : ∀ w ∈ Ts, w.before args s = true) (hT : GoodIn Ts (va_wsS own index y ws)) (hw : ws = Cond.codeWith y bytes maxL ret hh :: ws') (hrc : rm.cells = mc) (hrs : rm.slots = ms)
    (hd : y.cls ≠ "java/lang/invoke/MethodHandle" ∧ y.cls ≠ "java/lang/invoke/VarHandle" ∧ (parseMethodDescriptor y.desc).map (fun d => d.parameters.length) = some n) (hR : rm.frames + 1 ≤ R.frames ∧ 8 + (maxL + 11) + rm.locals ≤ R.locals) :
    vx_CSW R s args own index y bytes maxL ret hh ws rm mc ms n := by
  have ok : ∀ w ∈ va_wsS own index y ws, w.before args s = true := fun w h => ht w (hT w h).1
  have hG : GoodIn Ts ws := fun w h => hT w (by unfold va_wsS; exact List.mem_append_right _ h)
  have hc : Cond.codeWith y bytes maxL ret hh ∈ ws := by rw [hw]; exact List.mem_cons_self
  refine ⟨⟨hrc, hrs, hR.1, hR.2, pay_in ht hG, hc⟩, ht _ (hG _ hc).1, ok _ (by simp [va_wsS]), ⟨hd.1, hd.2.1⟩, fun sig h => ?_, ok _ (by simp [va_wsS]), ok _ (by simp [va_wsS])⟩
  have h2 := hd.2.2
  rw [h] at h2
  exact (Option.some.inj h2).symm
theorem vx_callSW (X : Stand p l e R s m args below meth c T locs cells slots) (hexec : p.tables.exec = Jvm.exec) {own : String} {index : Nat} {y : MethodName} {bytes : ByteArray} {maxL : Nat} {ret : Option FieldType} {hh : List (Nat × Nat × Nat × Nat)}
    (hown : s.vm.findClass own = some m.cls) (hlink : (Cond.methodLink own index y).before args s = true) (hstat : (Cond.static y).before args s = true) (hinit : (Cond.initialized y.cls).before args s = true)
    (hcode : (Cond.codeWith y bytes maxL ret hh).before args s = true) (hy : y.cls ≠ "java/lang/invoke/MethodHandle" ∧ y.cls ≠ "java/lang/invoke/VarHandle")
    {W9 : Nat} {Pre : Pt → Array Value → Prop} {Post : Pt → Array Value → Option Value → Pt → Prop} (hK : Back l R p e below s args y 3 W9 Pre Post)
    {g : JFrame} (hg : g.method = m) (hsize : g.locals.size = c.maxLocals) {argsL rest : List Value} (hlen : ∀ sig, parseMethodDescriptor y.desc = some sig → argsL.length = sig.parameters.length)
    (hstack : g.stack = argsL.reverse ++ rest) (hW : 2 * g.monitorRoom + (rest.map fun v => v.category).sum ≤ W9) (hdg : decode c.code g.pc = .ok (.invokestatic index, 3))
    (hpre : ∀ vm₁, s.WarmedH vm₁ → Pre ⟨T.setVm vm₁, locs, cells, slots⟩ argsL.toArray) :
    ∃ (v : Option Value) (vm₁ : Vm) (B : Pt), s.WarmedH vm₁ ∧ Stand p l e R s m args below meth c B.U B.locs B.cells B.slots ∧ Post ⟨T.setVm vm₁, locs, cells, slots⟩ argsL.toArray v B ∧
      ∀ target, Steps p.tables e below (B.U.setTop { g with pc := g.pc + 3, stack := v.toList ++ rest }) target → Steps p.tables e below (T.setTop g) target := by
  obtain ⟨mk, methM, cM, hnamed, hmethM, -, -, -, -, -, -, hsigM⟩ := Cond.codeWith_spec hcode
  have hstatic : methM.isStatic = true := Cond.static_spec hnamed hmethM hstat
  obtain ⟨kP, hkP, -⟩ := className_of_methodNamed hnamed
  have hinitP : kP.init = .initialized := Cond.initialized_spec (findClass_of_methodNamed hnamed) hkP hinit
  obtain ⟨vm₁, X₁, hstep₁⟩ := X.invokestatic hexec hown hlink hnamed hmethM hstatic hkP hinitP hy (g := g) hg (argsL := argsL) (rest := rest) (hlen _ hsigM) hstack hdg
  obtain ⟨v, B, X', hpost, hsteps⟩ := hK m meth c ⟨T.setVm vm₁, locs, cells, slots⟩ { g with stack := rest } (.invokestatic index) mk argsL.toArray X₁ hg hsize hdg hW (X₁.named hnamed) (hpre vm₁ X₁.warmed)
  exact ⟨v, vm₁, B, X₁.warmed, X', hpost, fun target h => hstep₁ _ fun acts => by rw [doInvoke_state]; exact hsteps.trans h⟩
theorem vx_runSW {y : MethodName} {bytes cc : ByteArray} {maxL nL mc ms n index : Nat} {ret : Option FieldType} {hh : List (Nat × Nat × Nat × Nat)} {ws : List Cond} {rm : Room} {Pc : Array Value → State → Prop} {Qc : Array Value → State → Outcome → State → Prop} {free : Addr → Prop} {Ts : List Cond} {own : String} {As rest : List Value} {g : JFrame}
    (S : CallFix p m c cc nL s args Ts own) (hM : Met l y ws rm Pc Qc mc ms free) (cw : vx_CSW R s args own index y bytes maxL ret hh ws rm mc ms n) (hp : PreS s H Pc As)
    (hg : g.method = m) (hn : As.length = n) (hsize : g.locals.size = nL) (hstack : g.stack = As.reverse ++ rest) (hW : 2 * g.monitorRoom + (rest.map fun v => v.category).sum ≤ 8) (hdg : decode cc g.pc = .ok (.invokestatic index, 3)) (hf : cells + mc ≤ R.cells ∧ slots + ms ≤ R.slots) :
    va_Run p l e R s m args below meth c H locs cells slots mc ms g rest (Qc As.toArray) (free) := by
  obtain ⟨⟨hrc, hrs, hfr, hlo, hws, hcw⟩, hcode, hini, hy, hlen, hl, hstt⟩ := cw
  have hK : Back l R p e below s args y 3 8 (PreOf R mc ms Pc) (PostOf Qc mc ms free) := va_backW (hh := hh) (bytes := bytes) (maxL := maxL) (ret := ret) hM hp.1 hrc hrs hfr hlo hws hcw (fun a' U hW => word_at hW (Or.inl (by first | rfl | simp [Cond.onTables, Cond.keeps, Cond.steady])) hini)
  obtain ⟨hx, hb, hml, ho, -⟩ := S
  intro T hT X
  obtain ⟨v, vm₁, ⟨U', l2, c2, s2⟩, hW₁, X', ⟨g', mk, t, L, e1, e2, hq, h1, hL, h2, h3⟩, st⟩ := vx_callSW X hx (hh := hh) (bytes := bytes) (maxL := maxL) (ret := ret) ho hl hstt hini hcode hy hK hg (hsize.trans hml.symm) (argsL := As) (rest := rest) (fun sig h => hn.trans (hlen sig h)) hstack hW (by rw [hb]; exact hdg)
    (fun vm₁ hW₁ => ⟨hf.1, hf.2, hp.2 (T.setVm vm₁) hT hW₁⟩)
  dsimp only [Pt.U, Pt.locs, Pt.cells, Pt.slots] at X' e1 e2 h1 h2 h3 st
  subst h1; subst h2; subst h3
  exact ⟨v, (T.setVm vm₁).calling g' mk As.toArray, t, U', L, hT, X', hL, e1, e2, hq, st⟩
/-- not caught here, past rows that name other classes: it goes on to the caller -/
theorem vx_outP {p : Program} {l : Launch} {e : Env} {R : Room} {s : State} {m : MethodId} {args : Array Value} {below : List Frame} {meth : Method} {c : Code} {H : Heap} {locs : List Loc} {cells slots : Nat} {free : Addr → Prop} {ls : Array Slot} {rest : List Value} {Qc : Array Value → State → Outcome → State → Prop} {XC : String → State → State → Prop}
    {pc : Nat} {own E : String} {ce : Cell} {q : Addr} {mc ms : Nat} (hown : s.vm.findClass own = some m.cls) (hlocks : meth.locks = false)
    (hpass : ∀ z ∈ c.exceptionTable.toList, covers z pc = false ∨ (z.catchType ≠ 0 ∧ ∃ nm : String, (Cond.classLink own z.catchType nm).before args s = true ∧ va_Nc E nm s)) (hcell : H[q]? = some ce) (hv : ce.vm = .none) (hcl : s.vm.findClass E = some ce.cls)
    (hx : ∀ t : State, t.heap = H → s.vm.Alike t.vm → XC E s t) (hf : ∀ z ∈ locs, free z.base) (hc : cells ≤ mc) (hs : slots ≤ ms) :
    vx_W p l e R s m args below meth c H locs cells slots (vx_MQ below Qc XC args s mc ms free) (F0 m pc ls rest) q := by
  intro T hT X
  have hpl : e.platform.magicAccessors = ({} : Platform).magicAccessors := by rw [X.admits.platform]
  obtain ⟨vm', hW', X', st⟩ := X.outThrough hlocks q (g := F0 m pc ls rest) rfl rfl rfl (cell := ce) (by rw [hT]; exact hcell) (by rw [hv]; rfl)
    (by obtain ⟨k9, h9, -⟩ := Vm.findClass_spec hcl; exact ⟨k9, h9⟩) (fun z hz => by
      rcases hpass z hz with h | ⟨hz0, nm, hl1, hn1⟩
      · exact Or.inl h
      · obtain ⟨c6, hc6, hcl6⟩ := Cond.classLink_spec hown hl1 e.platform hpl
        obtain ⟨a8, b8, h1, h2, h3⟩ := hn1
        cases Option.some.inj (h1.symm.trans hcl)
        cases Option.some.inj (h2.symm.trans hc6)
        exact Or.inr ⟨hz0, _, hcl6, h3⟩)
  obtain ⟨g₀, hfr⟩ := X'.frames_eq
  have hcell9 : ((T.setVm vm').setFrames (.throwing q :: below)).heap[q]? = some ce := by
    show T.heap[q]? = some ce
    rw [hT]; exact hcell
  have hend : Ended ((T.setVm vm').setFrames (.throwing q :: below)) below (.threw q) := State.frames_setFrames _ (State.cur_lt_of_frames hfr)
  refine ⟨(T.setVm vm').setFrames (.throwing q :: below), ?_, .threw q, X'.here.running, hend, Or.inr ⟨q, rfl, E, ce, locs, hx _ hT (X'.ends _).1.alike, hcell9, hv, hcl, (X'.ends _).1, (X'.ends _).2.mono hc hs, hf⟩⟩
  rw [X.pushThrowing_eq]
  exact st
/-- a thing of a world lies in the heap -/
theorem vx_lt {D : va_G} {cl : List vw_C} {ws : va_W} {H1 : Heap} (h : va_P D cl ws H1) {k : Nat} {q : Nat × va_E} (hk : ws[k]? = some q) : q.1 < H1.size := (h k q hk).lt
end VXS
/-! ===== END ===== -/
/-! ===== BEGIN methods with a table of their own: called by a name, returning or throwing ===== -/
section VXH
/-! vx_backW, vx_callVX, vx_callSX, vx_callVW, vx_runVW, vx_runVX, vx_runSX, vx_ofWH follow the same proofs as their sisters above (Free/Laws.lean, Shelf42/LK1.lean); vx_outP calls Shelf42/NT130.lean (outThrough). -/
section
variable {l : Launch} {R : Room} {p : Program} {e : Env} {below : List Frame} {s : State} {sargs : Array Value} {y : MethodName} {len W9 : Nat}
theorem vx_backW {ws : List Cond} {rm : Room} {Pc : Array Value → State → Prop} {Qc : Array Value → State → Outcome → State → Prop} {XC : String → State → State → Prop} {mc ms : Nat} {free : Addr → Prop} {bytes : ByteArray} {maxL : Nat} {ret : Option FieldType} {hh : List (Nat × Nat × Nat × Nat)}
    (hM : vx_Met l y ws rm Pc Qc XC mc ms free) (hblind : FrameBlind Pc) (hrc : rm.cells = mc) (hrs : rm.slots = ms)
    (hframes : rm.frames + 1 ≤ R.frames) (hlocals : W9 + (maxL + 11) + rm.locals ≤ R.locals)
    (hws : ∀ w ∈ ws, ∀ a' U, s.WarmedH U.vm → w.before a' U = true) (hcode : Cond.codeWith y bytes maxL ret hh ∈ ws) (hinit : ∀ a' U, s.WarmedH U.vm → (Cond.initialized y.cls).before a' U = true) :
    vx_Back l R p e below s sargs y len W9 (PreOf R mc ms Pc) (PostOf Qc mc ms free) (vx_Post XC mc ms free) := by
  intro m meth c A g ig mk a X hg hsize hdg hW hn hp
  have h1 : (headSpec ws rm).pre.before a A.U = true := atoms_intro fun w hw => hws w hw _ _ X.warmed
  have h2 : (Cond.codeWith y bytes maxL ret hh).before a A.U = true := hws _ hcode _ _ X.warmed
  have h3 : (Cond.initialized y.cls).before a A.U = true := hinit _ _ X.warmed
  have h4 : A.cells + (headSpec ws rm).room.cells ≤ R.cells := by rw [show (headSpec ws rm).room.cells = mc from hrc]; exact hp.1
  have h5 : A.slots + (headSpec ws rm).room.slots ≤ R.slots := by rw [show (headSpec ws rm).room.slots = ms from hrs]; exact hp.2.1
  have hPc : Pc a (A.U.calling g mk a) := hblind _ _ _ _ hp.2.2
  obtain ⟨U, Ls, c0, s0⟩ := A
  dsimp only [Pt.U, Pt.locs, Pt.cells, Pt.slots] at h1 h2 h3 h4 h5 X hn hPc ⊢
  obtain ⟨m9, methY, cY, hn9, hmY, hcY, -, hlY, -⟩ := Cond.codeWith_spec h2
  cases Option.some.inj (hn9.symm.trans hn)
  obtain ⟨kY, hkY, -⟩ := className_of_methodNamed hn
  have hinitY : kY.init = .initialized := Cond.initialized_spec (findClass_of_methodNamed hn) hkY h3
  have h : At U g.method c below := by rw [hg]; exact X.here
  have hlocals9 : W9 + (maxL + 11) + (headSpec ws rm).room.locals ≤ R.locals := hlocals
  have happ : (headSpec ws rm).appliesLoose y e.platform (U.calling g mk a) = true :=
    Spec.appliesLoose_calling (g := g) h hdg hn hkY hinitY
      (X.room_calling (g := g) (R' := (headSpec ws rm).room) hsize hmY hcY hframes (by rw [hlY]; omega) h4 h5) h1
  obtain ⟨mid, hmid⟩ := h.above
  have hfr : (U.setTop g).frames = (.java g :: mid) ++ below := by rw [State.frames_setTop' g h.top, hmid]; rfl
  obtain ⟨o, s₂, hsteps, -, hend, hq⟩ := Steps.callFree hM p X.admits X.cas X.clock (acts := []) hfr happ hPc trivial
  have hq' : vx_Q Qc XC mc ms free a (U.calling g mk a) o s₂ := hq
  rw [State.frames_setTop' g h.top] at hend
  obtain ⟨g₀, hg0⟩ := Option.isSome_iff_exists.mp h.top
  obtain ⟨r, hr⟩ := State.topJava?_eq_some.mp hg0
  have hr' : (({ U with heap := s₂.heap, slotsUsed := s₂.slotsUsed } : State).setVm s₂.vm).frames = .java g₀ :: r := hr
  rcases hq' with ⟨hqc, L, hfe, hL⟩ | ⟨q, rfl, E, ce, L, hx, hce, hcv, hcl, hW₂, hsm, hL⟩
  · obtain ⟨⟨v, rfl⟩, hW₂, e2, q2, q3, q4, q5, q6⟩ := id hfe
    have e3 : s₂ = ({ (U.calling g mk a).setFrames s₂.frames with heap := s₂.heap, slotsUsed := s₂.slotsUsed } : State).setVm s₂.vm := by
      have : s₂ = ({ s₂ with vm := (U.calling g mk a).vm } : State).setVm s₂.vm := rfl
      rw [e2] at this
      exact this
    obtain ⟨c₂, i₂, len₂, hc₂, hd₂, hf₂⟩ := hend
    have hW' : U.WarmedH s₂.vm := hW₂
    have hcc : c₂ = c := by
      have h1 : s₂.code? g.method = U.code? g.method := by
        rw [State.code?_eq, State.code?_eq, hW'.alike.method?]
      exact Option.some.inj (hc₂.symm.trans (h1.trans h.code))
    subst hcc
    have hlen : len₂ = len := by rw [hdg] at hd₂; cases hd₂; rfl
    subst hlen
    have hs₂ : s₂ = (({ U with heap := s₂.heap, slotsUsed := s₂.slotsUsed } : State).setVm s₂.vm).setTop { g with pc := g.pc + len₂, stack := v.toList ++ g.stack } := by
      refine e3.trans ?_
      rw [hf₂, State.calling_eq h.top, State.setFrames_setFrames, State.setTop_of_frames _ hr', hr]
      rfl
    have hsame : U.sameButNew ({ U with heap := s₂.heap, slotsUsed := s₂.slotsUsed } : State) L mc ms := by
      refine ⟨?_, q2, q3, q4, q5, q6⟩
      obtain ⟨t, ht, -⟩ := State.frames_cons hr
      show ({ U with heap := s₂.heap, slotsUsed := s₂.slotsUsed } : State) = { U.setFrames U.frames with heap := s₂.heap, slotsUsed := s₂.slotsUsed }
      rw [State.setFrames_self ht]
    subst hg
    refine Or.inl ⟨v, ⟨(({ U with heap := s₂.heap, slotsUsed := s₂.slotsUsed } : State).setVm s₂.vm), Ls ++ L, c0 + mc, s0 + ms⟩,
      ⟨X.admits, X.cas, X.clock, X.frames, X.room, X.hears, X.method, X.code, (X.here.setHeapUsed s₂.heap s₂.slotsUsed).setVm hW'.alike, X.tail, State.WarmedH.trans X.warmed hW', X.limits, X.bytes, X.same.trans (hsame.setVm s.vm)⟩,
      ⟨g, mk, s₂, L, rfl, rfl, hqc, rfl, hL, rfl, rfl⟩, ?_⟩
    show Steps p.tables e below _ ((({ U with heap := s₂.heap, slotsUsed := s₂.slotsUsed } : State).setVm s₂.vm).setTop { g with pc := g.pc + len₂, stack := v.toList ++ g.stack })
    rw [← hs₂]
    exact hsteps
  · obtain ⟨e2, q2, q3, q4, q5, q6⟩ := id hsm
    have e3 : s₂ = ({ (U.calling g mk a).setFrames s₂.frames with heap := s₂.heap, slotsUsed := s₂.slotsUsed } : State).setVm s₂.vm := by
      have : s₂ = ({ s₂ with vm := (U.calling g mk a).vm } : State).setVm s₂.vm := rfl
      rw [e2] at this
      exact this
    have hf₂ : s₂.frames = .throwing q :: .java g :: U.frames.tail := hend
    have hW' : U.WarmedH s₂.vm := hW₂
    have hs₂ : s₂ = ((({ U with heap := s₂.heap, slotsUsed := s₂.slotsUsed } : State).setVm s₂.vm).setTop g).pushFrame (.throwing q) := by
      refine e3.trans ?_
      rw [hf₂, State.calling_eq h.top, State.setFrames_setFrames, State.pushFrame, State.frames_setTop _ hr', State.setTop_of_frames _ hr', State.setFrames_setFrames, hr]
      rfl
    have hsame : U.sameButNew ({ U with heap := s₂.heap, slotsUsed := s₂.slotsUsed } : State) L mc ms := by
      refine ⟨?_, q2, q3, q4, q5, q6⟩
      obtain ⟨t, ht, -⟩ := State.frames_cons hr
      show ({ U with heap := s₂.heap, slotsUsed := s₂.slotsUsed } : State) = { U.setFrames U.frames with heap := s₂.heap, slotsUsed := s₂.slotsUsed }
      rw [State.setFrames_self ht]
    subst hg
    refine Or.inr ⟨q, ⟨(({ U with heap := s₂.heap, slotsUsed := s₂.slotsUsed } : State).setVm s₂.vm), Ls ++ L, c0 + mc, s0 + ms⟩,
      ⟨X.admits, X.cas, X.clock, X.frames, X.room, X.hears, X.method, X.code, (X.here.setHeapUsed s₂.heap s₂.slotsUsed).setVm hW'.alike, X.tail, State.WarmedH.trans X.warmed hW', X.limits, X.bytes, X.same.trans (hsame.setVm s.vm)⟩,
      ⟨g, mk, s₂, L, E, ce, rfl, rfl, hx, hce, hcv, hcl, rfl, hL, rfl, rfl⟩, ?_⟩
    show Steps p.tables e below _ (((({ U with heap := s₂.heap, slotsUsed := s₂.slotsUsed } : State).setVm s₂.vm).setTop g).pushFrame (.throwing q))
    rw [← hs₂]
    exact hsteps
end
variable {p : Program} {l : Launch} {e : Env} {R : Room} {s : State} {m : MethodId} {args : Array Value} {below : List Frame} {meth : Method} {c : Code} {T : State} {H : Heap} {locs : List Loc} {cells slots : Nat}
theorem vx_callVX (X : Stand p l e R s m args below meth c T locs cells slots) (hexec : p.tables.exec = Jvm.exec) {own C : String} {index : Nat} {y : MethodName} {bytes : ByteArray} {maxL : Nat} {ret : Option FieldType} {hh : List (Nat × Nat × Nat × Nat)}
    (hown : s.vm.findClass own = some m.cls) (hlink : (Cond.methodLink own index y).before args s = true) (hinst : (Cond.instanceMethod y).before args s = true) (hsel : (Cond.selects C y y).before args s = true)
    (hcode : (Cond.codeWith y bytes maxL ret hh).before args s = true) (hy : y.cls ≠ "java/lang/invoke/MethodHandle" ∧ y.cls ≠ "java/lang/invoke/VarHandle")
    {W9 : Nat} {Pre : Pt → Array Value → Prop} {Post : Pt → Array Value → Option Value → Pt → Prop} {PostX : Pt → Array Value → Addr → Pt → Prop} (hK : vx_Back l R p e below s args y 3 W9 Pre Post PostX)
    {b : Addr} {cellB : Cell} (hcell : T.heap[b]? = some cellB) (hobj : cellB.vm.isStatics = false) (hcls : s.vm.findClass C = some cellB.cls)
    {g : JFrame} (hg : g.method = m) (hsize : g.locals.size = c.maxLocals) {argsL rest : List Value} (hlen : ∀ sig, parseMethodDescriptor y.desc = some sig → argsL.length = sig.parameters.length)
    (hstack : g.stack = argsL.reverse ++ .ref b :: rest) (hW : 2 * g.monitorRoom + (rest.map fun v => v.category).sum ≤ W9) (hdg : decode c.code g.pc = .ok (.invokevirtual index, 3))
    (hpre : ∀ vm₁, s.WarmedH vm₁ → Pre ⟨T.setVm vm₁, locs, cells, slots⟩ (Value.ref b :: argsL).toArray) :
    (∃ (v : Option Value) (vm₁ : Vm) (B : Pt), s.WarmedH vm₁ ∧ Stand p l e R s m args below meth c B.U B.locs B.cells B.slots ∧ Post ⟨T.setVm vm₁, locs, cells, slots⟩ (Value.ref b :: argsL).toArray v B ∧
      ∀ target, Steps p.tables e below (B.U.setTop { g with pc := g.pc + 3, stack := v.toList ++ rest }) target → Steps p.tables e below (T.setTop g) target) ∨
    (∃ (q : Addr) (vm₁ : Vm) (B : Pt), s.WarmedH vm₁ ∧ Stand p l e R s m args below meth c B.U B.locs B.cells B.slots ∧ PostX ⟨T.setVm vm₁, locs, cells, slots⟩ (Value.ref b :: argsL).toArray q B ∧
      Steps p.tables e below (T.setTop g) ((B.U.setTop { g with stack := rest }).pushFrame (.throwing q))) := by
  obtain ⟨mk, methM, hnamed, hmethM, hstM, habM⟩ := Cond.instanceMethod_spec hinst
  obtain ⟨m8, methM', cM, hn8, hmethM', -, -, -, -, -, -, hsigM⟩ := Cond.codeWith_spec hcode
  cases Option.some.inj (hn8.symm.trans hnamed)
  cases hmethM.symm.trans hmethM'
  obtain ⟨c2, r2, m2, q1, q2, q3, q4, kP, hkP, hkPi⟩ := Cond.selects_spec hsel
  cases hcls.symm.trans q1
  cases (State.methodFound?_of_named hnamed hy).symm.trans q2
  cases hnamed.symm.trans q3
  have hselP : selectMethod e.platform s.vm cellB.cls mk = .method mk := by rw [Launch.admits_selectMethod X.admits]; exact q4
  obtain ⟨vm₁, X₁, hstep₁⟩ := X.invokevirtual hexec hown hlink hnamed hmethM hstM hkP hkPi hy (a := b) (cell := cellB) hcell
    (fun z h => by rw [h] at hobj; cases hobj) hselP hmethM habM hkP hkPi (g := g) hg (argsL := argsL) (rest := rest) (hlen _ hsigM) hstack hdg
  rcases hK m meth c ⟨T.setVm vm₁, locs, cells, slots⟩ { g with stack := rest } (.invokevirtual index) mk (Value.ref b :: argsL).toArray X₁ hg hsize hdg hW (X₁.named hnamed) (hpre vm₁ X₁.warmed) with ⟨v, B, X', hpost, hsteps⟩ | ⟨q, B, X', hpost, hsteps⟩
  · exact Or.inl ⟨v, vm₁, B, X₁.warmed, X', hpost, fun target h => hstep₁ _ fun acts => by rw [doInvoke_state]; exact hsteps.trans h⟩
  · exact Or.inr ⟨q, vm₁, B, X₁.warmed, X', hpost, hstep₁ _ fun acts => by rw [doInvoke_state]; exact hsteps⟩
theorem vx_callSX (X : Stand p l e R s m args below meth c T locs cells slots) (hexec : p.tables.exec = Jvm.exec) {own : String} {index : Nat} {y : MethodName} {bytes : ByteArray} {maxL : Nat} {ret : Option FieldType} {hh : List (Nat × Nat × Nat × Nat)}
    (hown : s.vm.findClass own = some m.cls) (hlink : (Cond.methodLink own index y).before args s = true) (hstat : (Cond.static y).before args s = true) (hinit : (Cond.initialized y.cls).before args s = true)
    (hcode : (Cond.codeWith y bytes maxL ret hh).before args s = true) (hy : y.cls ≠ "java/lang/invoke/MethodHandle" ∧ y.cls ≠ "java/lang/invoke/VarHandle")
    {W9 : Nat} {Pre : Pt → Array Value → Prop} {Post : Pt → Array Value → Option Value → Pt → Prop} {PostX : Pt → Array Value → Addr → Pt → Prop} (hK : vx_Back l R p e below s args y 3 W9 Pre Post PostX)
    {g : JFrame} (hg : g.method = m) (hsize : g.locals.size = c.maxLocals) {argsL rest : List Value} (hlen : ∀ sig, parseMethodDescriptor y.desc = some sig → argsL.length = sig.parameters.length)
    (hstack : g.stack = argsL.reverse ++ rest) (hW : 2 * g.monitorRoom + (rest.map fun v => v.category).sum ≤ W9) (hdg : decode c.code g.pc = .ok (.invokestatic index, 3))
    (hpre : ∀ vm₁, s.WarmedH vm₁ → Pre ⟨T.setVm vm₁, locs, cells, slots⟩ argsL.toArray) :
    (∃ (v : Option Value) (vm₁ : Vm) (B : Pt), s.WarmedH vm₁ ∧ Stand p l e R s m args below meth c B.U B.locs B.cells B.slots ∧ Post ⟨T.setVm vm₁, locs, cells, slots⟩ argsL.toArray v B ∧
      ∀ target, Steps p.tables e below (B.U.setTop { g with pc := g.pc + 3, stack := v.toList ++ rest }) target → Steps p.tables e below (T.setTop g) target) ∨
    (∃ (q : Addr) (vm₁ : Vm) (B : Pt), s.WarmedH vm₁ ∧ Stand p l e R s m args below meth c B.U B.locs B.cells B.slots ∧ PostX ⟨T.setVm vm₁, locs, cells, slots⟩ argsL.toArray q B ∧
      Steps p.tables e below (T.setTop g) ((B.U.setTop { g with stack := rest }).pushFrame (.throwing q))) := by
  obtain ⟨mk, methM, cM, hnamed, hmethM, -, -, -, -, -, -, hsigM⟩ := Cond.codeWith_spec hcode
  have hstatic : methM.isStatic = true := Cond.static_spec hnamed hmethM hstat
  obtain ⟨kP, hkP, -⟩ := className_of_methodNamed hnamed
  have hinitP : kP.init = .initialized := Cond.initialized_spec (findClass_of_methodNamed hnamed) hkP hinit
  obtain ⟨vm₁, X₁, hstep₁⟩ := X.invokestatic hexec hown hlink hnamed hmethM hstatic hkP hinitP hy (g := g) hg (argsL := argsL) (rest := rest) (hlen _ hsigM) hstack hdg
  rcases hK m meth c ⟨T.setVm vm₁, locs, cells, slots⟩ { g with stack := rest } (.invokestatic index) mk argsL.toArray X₁ hg hsize hdg hW (X₁.named hnamed) (hpre vm₁ X₁.warmed) with ⟨v, B, X', hpost, hsteps⟩ | ⟨q, B, X', hpost, hsteps⟩
  · exact Or.inl ⟨v, vm₁, B, X₁.warmed, X', hpost, fun target h => hstep₁ _ fun acts => by rw [doInvoke_state]; exact hsteps.trans h⟩
  · exact Or.inr ⟨q, vm₁, B, X₁.warmed, X', hpost, hstep₁ _ fun acts => by rw [doInvoke_state]; exact hsteps⟩
theorem vx_callVW (X : Stand p l e R s m args below meth c T locs cells slots) (hexec : p.tables.exec = Jvm.exec) {own C : String} {index : Nat} {y : MethodName} {bytes : ByteArray} {maxL : Nat} {ret : Option FieldType} {hh : List (Nat × Nat × Nat × Nat)}
    (hown : s.vm.findClass own = some m.cls) (hlink : (Cond.methodLink own index y).before args s = true) (hinst : (Cond.instanceMethod y).before args s = true) (hsel : (Cond.selects C y y).before args s = true)
    (hcode : (Cond.codeWith y bytes maxL ret hh).before args s = true) (hy : y.cls ≠ "java/lang/invoke/MethodHandle" ∧ y.cls ≠ "java/lang/invoke/VarHandle")
    {W9 : Nat} {Pre : Pt → Array Value → Prop} {Post : Pt → Array Value → Option Value → Pt → Prop} (hK : Back l R p e below s args y 3 W9 Pre Post)
    {b : Addr} {cellB : Cell} (hcell : T.heap[b]? = some cellB) (hobj : cellB.vm.isStatics = false) (hcls : s.vm.findClass C = some cellB.cls)
    {g : JFrame} (hg : g.method = m) (hsize : g.locals.size = c.maxLocals) {argsL rest : List Value} (hlen : ∀ sig, parseMethodDescriptor y.desc = some sig → argsL.length = sig.parameters.length)
    (hstack : g.stack = argsL.reverse ++ .ref b :: rest) (hW : 2 * g.monitorRoom + (rest.map fun v => v.category).sum ≤ W9) (hdg : decode c.code g.pc = .ok (.invokevirtual index, 3))
    (hpre : ∀ vm₁, s.WarmedH vm₁ → Pre ⟨T.setVm vm₁, locs, cells, slots⟩ (Value.ref b :: argsL).toArray) :
    ∃ (v : Option Value) (vm₁ : Vm) (B : Pt), s.WarmedH vm₁ ∧ Stand p l e R s m args below meth c B.U B.locs B.cells B.slots ∧ Post ⟨T.setVm vm₁, locs, cells, slots⟩ (Value.ref b :: argsL).toArray v B ∧
      ∀ target, Steps p.tables e below (B.U.setTop { g with pc := g.pc + 3, stack := v.toList ++ rest }) target → Steps p.tables e below (T.setTop g) target := by
  obtain ⟨mk, methM, hnamed, hmethM, hstM, habM⟩ := Cond.instanceMethod_spec hinst
  obtain ⟨m8, methM', cM, hn8, hmethM', -, -, -, -, -, -, hsigM⟩ := Cond.codeWith_spec hcode
  cases Option.some.inj (hn8.symm.trans hnamed)
  cases hmethM.symm.trans hmethM'
  obtain ⟨c2, r2, m2, q1, q2, q3, q4, kP, hkP, hkPi⟩ := Cond.selects_spec hsel
  cases hcls.symm.trans q1
  cases (State.methodFound?_of_named hnamed hy).symm.trans q2
  cases hnamed.symm.trans q3
  have hselP : selectMethod e.platform s.vm cellB.cls mk = .method mk := by rw [Launch.admits_selectMethod X.admits]; exact q4
  obtain ⟨vm₁, X₁, hstep₁⟩ := X.invokevirtual hexec hown hlink hnamed hmethM hstM hkP hkPi hy (a := b) (cell := cellB) hcell
    (fun z h => by rw [h] at hobj; cases hobj) hselP hmethM habM hkP hkPi (g := g) hg (argsL := argsL) (rest := rest) (hlen _ hsigM) hstack hdg
  obtain ⟨v, B, X', hpost, hsteps⟩ := hK m meth c ⟨T.setVm vm₁, locs, cells, slots⟩ { g with stack := rest } (.invokevirtual index) mk (Value.ref b :: argsL).toArray X₁ hg hsize hdg hW (X₁.named hnamed) (hpre vm₁ X₁.warmed)
  exact ⟨v, vm₁, B, X₁.warmed, X', hpost, fun target h => hstep₁ _ fun acts => by rw [doInvoke_state]; exact hsteps.trans h⟩
abbrev vx_CVW (R : Room) (s : State) (args : Array Value) (own C : String) (index : Nat) (y : MethodName) (bytes : ByteArray) (maxL : Nat) (ret : Option FieldType) (hh : List (Nat × Nat × Nat × Nat)) (ws : List Cond) (rm : Room) (mc ms n : Nat) : Prop :=
  (rm.cells = mc ∧ rm.slots = ms ∧ rm.frames + 1 ≤ R.frames ∧ 8 + (maxL + 11) + rm.locals ≤ R.locals ∧ (∀ w ∈ ws, ∀ (a' : Array Value) (U : State), s.WarmedH U.vm → w.before a' U = true) ∧ Cond.codeWith y bytes maxL ret hh ∈ ws) ∧
  (Cond.codeWith y bytes maxL ret hh).before args s = true ∧ (Cond.initialized y.cls).before args s = true ∧ (y.cls ≠ "java/lang/invoke/MethodHandle" ∧ y.cls ≠ "java/lang/invoke/VarHandle") ∧
  (∀ sig, parseMethodDescriptor y.desc = some sig → n = sig.parameters.length) ∧ (Cond.methodLink own index y).before args s = true ∧ (Cond.instanceMethod y).before args s = true ∧ (Cond.selects C y y).before args s = true
theorem vx_cwVW {own C : String} {index maxL mc ms : Nat} {y : MethodName} {bytes : ByteArray} {ret : Option FieldType} {hh : List (Nat × Nat × Nat × Nat)} {Ts ws ws' : List Cond} {rm : Room} (n : Nat) (ht : ∀ w ∈ Ts, w.before args s = true) (hT : GoodIn Ts (wsV own index C y ws)) (hw : ws = Cond.codeWith y bytes maxL ret hh :: ws') (hrc : rm.cells = mc) (hrs : rm.slots = ms)
    (hd : y.cls = C ∧ y.cls ≠ "java/lang/invoke/MethodHandle" ∧ y.cls ≠ "java/lang/invoke/VarHandle" ∧ (parseMethodDescriptor y.desc).map (fun d => d.parameters.length) = some n) (hR : rm.frames + 1 ≤ R.frames ∧ 8 + (maxL + 11) + rm.locals ≤ R.locals) :
    vx_CVW R s args own C index y bytes maxL ret hh ws rm mc ms n := by
  obtain ⟨hC, hd⟩ := hd
  subst hC
  have ok : ∀ w ∈ wsV own index y.cls y ws, w.before args s = true := fun w h => ht w (hT w h).1
  have hG : GoodIn Ts ws := fun w h => hT w (by unfold wsV; exact List.mem_append_right _ h)
  have hc : Cond.codeWith y bytes maxL ret hh ∈ ws := by rw [hw]; exact List.mem_cons_self
  refine ⟨⟨hrc, hrs, hR.1, hR.2, pay_in ht hG, hc⟩, ht _ (hG _ hc).1, ok _ (by simp [wsV]), ⟨hd.1, hd.2.1⟩, fun sig h => ?_, ok _ (by simp [wsV]), ok _ (by simp [wsV]), ok _ (by simp [wsV])⟩
  have h2 := hd.2.2
  rw [h] at h2
  exact (Option.some.inj h2).symm
theorem vx_runVW {y : MethodName} {bytes cc : ByteArray} {maxL nL mc ms n index : Nat} {ret : Option FieldType} {hh : List (Nat × Nat × Nat × Nat)} {ws : List Cond} {rm : Room} {Pc : Array Value → State → Prop} {Qc : Array Value → State → Outcome → State → Prop} {free : Addr → Prop} {Ts : List Cond} {own C : String} {b : Addr} {As rest : List Value} {g : JFrame}
    (S : CallFix p m c cc nL s args Ts own) (hM : Met l y ws rm Pc Qc mc ms free) (cw : vx_CVW R s args own C index y bytes maxL ret hh ws rm mc ms n) (hp : PreV s H C b Pc As)
    (hg : g.method = m) (hn : As.length = n) (hsize : g.locals.size = nL) (hstack : g.stack = As.reverse ++ .ref b :: rest) (hW : 2 * g.monitorRoom + (rest.map fun v => v.category).sum ≤ 8) (hdg : decode cc g.pc = .ok (.invokevirtual index, 3)) (hf : cells + mc ≤ R.cells ∧ slots + ms ≤ R.slots) :
    va_Run p l e R s m args below meth c H locs cells slots mc ms g rest (Qc (Value.ref b :: As).toArray) free := by
  obtain ⟨⟨hrc, hrs, hfr, hlo, hws, hcw⟩, hcode, hini, hy, hlen, hl, hin, hse⟩ := cw
  have hK : Back l R p e below s args y 3 8 (PreOf R mc ms Pc) (PostOf Qc mc ms free) := va_backW (hh := hh) (bytes := bytes) (maxL := maxL) (ret := ret) hM hp.1 hrc hrs hfr hlo hws hcw (fun a' U hW => word_at hW (Or.inl (by first | rfl | simp [Cond.onTables, Cond.keeps, Cond.steady])) hini)
  obtain ⟨hx, hb, hml, ho, -⟩ := S
  obtain ⟨-, ⟨cellB, hcB, hoB, hclB⟩, hPc⟩ := hp
  intro T hT X
  obtain ⟨v, vm₁, ⟨U', l2, c2, s2⟩, hW₁, X', ⟨g', mk, t, L, e1, e2, hq, h1, hL, h2, h3⟩, st⟩ := vx_callVW X hx (C := C) (hh := hh) (bytes := bytes) (maxL := maxL) (ret := ret) ho hl hin hse hcode hy hK (by rw [hT]; exact hcB) hoB hclB hg (hsize.trans hml.symm) (argsL := As) (rest := rest) (fun sig h => hn.trans (hlen sig h)) hstack hW (by rw [hb]; exact hdg)
    (fun vm₁ hW₁ => ⟨hf.1, hf.2, hPc (T.setVm vm₁) hT hW₁⟩)
  dsimp only [Pt.U, Pt.locs, Pt.cells, Pt.slots] at X' e1 e2 h1 h2 h3 st
  subst h1; subst h2; subst h3
  exact ⟨v, (T.setVm vm₁).calling g' mk (Value.ref b :: As).toArray, t, U', L, hT, X', hL, e1, e2, hq, st⟩
section
variable {y : MethodName} {bytes cc : ByteArray} {maxL nL mc ms n index : Nat} {ret : Option FieldType} {ws : List Cond} {rm : Room} {Pc : Array Value → State → Prop} {Qc : Array Value → State → Outcome → State → Prop} {XC : String → State → State → Prop} {free : Addr → Prop} {Ts : List Cond} {own C : String} {b : Addr} {As rest : List Value} {g : JFrame}
theorem vx_runVX {hh : List (Nat × Nat × Nat × Nat)} (S : CallFix p m c cc nL s args Ts own) (hM : vx_Met l y ws rm Pc Qc XC mc ms free) (cw : vx_CVW R s args own C index y bytes maxL ret hh ws rm mc ms n) (hp : PreV s H C b Pc As)
    (hg : g.method = m) (hn : As.length = n) (hsize : g.locals.size = nL) (hstack : g.stack = As.reverse ++ .ref b :: rest) (hW : 2 * g.monitorRoom + (rest.map fun v => v.category).sum ≤ 8) (hdg : decode cc g.pc = .ok (.invokevirtual index, 3)) (hf : cells + mc ≤ R.cells ∧ slots + ms ≤ R.slots) :
    vx_Run p l e R s m args below meth c H locs cells slots mc ms g rest (Qc (Value.ref b :: As).toArray) XC free := by
  obtain ⟨⟨hrc, hrs, hfr, hlo, hws, hcw⟩, hcode, hini, hy, hlen, hl, hin, hse⟩ := cw
  have hK : vx_Back l R p e below s args y 3 8 (PreOf R mc ms Pc) (PostOf Qc mc ms free) (vx_Post XC mc ms free) := vx_backW (hh := hh) (bytes := bytes) (maxL := maxL) (ret := ret) hM hp.1 hrc hrs hfr hlo hws hcw (fun a' U hW => word_at hW (Or.inl (by first | rfl | simp [Cond.onTables, Cond.keeps, Cond.steady])) hini)
  obtain ⟨hx, hb, hml, ho, -⟩ := S
  obtain ⟨-, ⟨cellB, hcB, hoB, hclB⟩, hPc⟩ := hp
  intro T hT X
  rcases vx_callVX X hx (C := C) (hh := hh) (bytes := bytes) (maxL := maxL) (ret := ret) ho hl hin hse hcode hy hK (by rw [hT]; exact hcB) hoB hclB hg (hsize.trans hml.symm) (argsL := As) (rest := rest) (fun sig h => hn.trans (hlen sig h)) hstack hW (by rw [hb]; exact hdg)
    (fun vm₁ hW₁ => ⟨hf.1, hf.2, hPc (T.setVm vm₁) hT hW₁⟩) with ⟨v, vm₁, ⟨U', l2, c2, s2⟩, hW₁, X', ⟨g', mk, t, L, e1, e2, hq, h1, hL, h2, h3⟩, st⟩ | ⟨q, vm₁, ⟨U', l2, c2, s2⟩, hW₁, X', ⟨g', mk, t, L, E, ce, e1, e2, hq, hce, hcv, hcl, h1, hL, h2, h3⟩, st⟩
  · dsimp only [Pt.U, Pt.locs, Pt.cells, Pt.slots] at X' e1 e2 h1 h2 h3 st
    subst h1; subst h2; subst h3
    exact Or.inl ⟨v, (T.setVm vm₁).calling g' mk (Value.ref b :: As).toArray, t, U', L, hT, X', hL, e1, e2, hq, st⟩
  · dsimp only [Pt.U, Pt.locs, Pt.cells, Pt.slots] at X' e1 e2 h1 h2 h3 st hcl
    subst h1; subst h2; subst h3
    exact Or.inr ⟨q, (T.setVm vm₁).calling g' mk (Value.ref b :: As).toArray, t, U', L, E, ce, hT, X', hL, e1, e2, hq, hce, hcv, vx_cls hW₁ hcl, st⟩
theorem vx_runSX {hh : List (Nat × Nat × Nat × Nat)} (S : CallFix p m c cc nL s args Ts own) (hM : vx_Met l y ws rm Pc Qc XC mc ms free) (cw : vx_CSW R s args own index y bytes maxL ret hh ws rm mc ms n) (hp : PreS s H Pc As)
    (hg : g.method = m) (hn : As.length = n) (hsize : g.locals.size = nL) (hstack : g.stack = As.reverse ++ rest) (hW : 2 * g.monitorRoom + (rest.map fun v => v.category).sum ≤ 8) (hdg : decode cc g.pc = .ok (.invokestatic index, 3)) (hf : cells + mc ≤ R.cells ∧ slots + ms ≤ R.slots) :
    vx_Run p l e R s m args below meth c H locs cells slots mc ms g rest (Qc As.toArray) XC free := by
  obtain ⟨⟨hrc, hrs, hfr, hlo, hws, hcw⟩, hcode, hini, hy, hlen, hl, hstt⟩ := cw
  have hK : vx_Back l R p e below s args y 3 8 (PreOf R mc ms Pc) (PostOf Qc mc ms free) (vx_Post XC mc ms free) := vx_backW (hh := hh) (bytes := bytes) (maxL := maxL) (ret := ret) hM hp.1 hrc hrs hfr hlo hws hcw (fun a' U hW => word_at hW (Or.inl (by first | rfl | simp [Cond.onTables, Cond.keeps, Cond.steady])) hini)
  obtain ⟨hx, hb, hml, ho, -⟩ := S
  intro T hT X
  rcases vx_callSX X hx (hh := hh) (bytes := bytes) (maxL := maxL) (ret := ret) ho hl hstt hini hcode hy hK hg (hsize.trans hml.symm) (argsL := As) (rest := rest) (fun sig h => hn.trans (hlen sig h)) hstack hW (by rw [hb]; exact hdg)
    (fun vm₁ hW₁ => ⟨hf.1, hf.2, hp.2 (T.setVm vm₁) hT hW₁⟩) with ⟨v, vm₁, ⟨U', l2, c2, s2⟩, hW₁, X', ⟨g', mk, t, L, e1, e2, hq, h1, hL, h2, h3⟩, st⟩ | ⟨q, vm₁, ⟨U', l2, c2, s2⟩, hW₁, X', ⟨g', mk, t, L, E, ce, e1, e2, hq, hce, hcv, hcl, h1, hL, h2, h3⟩, st⟩
  · dsimp only [Pt.U, Pt.locs, Pt.cells, Pt.slots] at X' e1 e2 h1 h2 h3 st
    subst h1; subst h2; subst h3
    exact Or.inl ⟨v, (T.setVm vm₁).calling g' mk As.toArray, t, U', L, hT, X', hL, e1, e2, hq, st⟩
  · dsimp only [Pt.U, Pt.locs, Pt.cells, Pt.slots] at X' e1 e2 h1 h2 h3 st hcl
    subst h1; subst h2; subst h3
    exact Or.inr ⟨q, (T.setVm vm₁).calling g' mk As.toArray, t, U', L, E, ce, hT, X', hL, e1, e2, hq, hce, hcv, vx_cls hW₁ hcl, st⟩
end
end VXH
theorem vx_ofWH {l : Launch} {y : MethodName} {ws ws' : List Cond} {rm : Room} {Pc : Array Value → State → Prop} {Qc : Array Value → State → Outcome → State → Prop} {XC : String → State → State → Prop} {mc ms : Nat} {free : Addr → Prop} {cc : ByteArray} {maxL : Nat} {ret : Option FieldType} {hh : List (Nat × Nat × Nat × Nat)}
    (hy : plainName y.cls = true) (hw : ws = Cond.codeWith y cc maxL ret hh :: ws')
    (body : ∀ p e s m args below meth c s₁, BodyLoose p l y (headSpec ws rm) cc maxL ret e s m args below meth c s₁ → c.maxLocals = maxL → Pc args s →
      W p l e (headSpec ws rm).room s m args below meth c s.heap [] 0 0 (vx_MQ below Qc XC args s mc ms free) (entryFrame m args maxL)) : vx_Met l y ws rm Pc Qc XC mc ms free := by
  refine MetFree.of_bodyS (code := cc) (maxLocals := maxL) (ret := ret) hy ?_ ?_
  · intro args s m h hn
    obtain ⟨m9, meth, c, hn9, h1, h2, h3, h4, -, h5, h6, -⟩ := Cond.codeWith_spec (atoms_spec (ws := ws) h _ (by rw [hw]; exact List.mem_cons_self))
    cases hn.symm.trans hn9
    exact ⟨meth, c, h1, h2, h3, h4, h5, h6⟩
  · intro p e s m args below meth c s₁ B hml hP _
    have hh0 : s₁.heap = s.heap := by rw [B.state]; rfl
    obtain ⟨t, a1, o, b1, b2, b3⟩ := body p e s m args below meth c s₁ B hml hP s₁ hh0 (Stand.of_body B)
    exact ⟨t, o, a1, b1, b2, b3⟩
/-! ===== END ===== -/
end
section
/-! names: printed by wip/whole/names.py out of the Statement -/
def RP : String := "PolicyVerifier$Policy"
def TP : u_T := fun k => match k with
  | 0 => ("PolicyVerifier$Policy", "filtering", "Z", true)
  | 1 => ("PolicyVerifier$Policy", "outcomes", "[J", true)
  | _ => ("PolicyVerifier$Policy", "table", "LPolicyVerifier$Table;", false)
def tyP : Nat → FieldType := fun k => match k with
  | 0 => .boolean
  | 1 => .array .long
  | _ => .object "PolicyVerifier$Table"
theorem nmP : ∀ a, a < 3 → ∀ b, b < 3 → a ≠ b → (TP a).2.1 ≠ (TP b).2.1 := by decide +kernel
theorem tyP_ok : ∀ k, k < 3 → parseFieldDescriptor (TP k).2.2.1 = some (tyP k) := by decide +kernel
def RQ : String := "PolicyVerifier$Responses"
def TQ : u_T := fun k => match k with
  | 0 => ("PolicyVerifier$Responses", "low", "[J", true)
  | _ => ("PolicyVerifier$Responses", "high", "[J", true)
def tyQ : Nat → FieldType := fun k => match k with
  | 0 => .array .long
  | _ => .array .long
theorem nmQ : ∀ a, a < 2 → ∀ b, b < 2 → a ≠ b → (TQ a).2.1 ≠ (TQ b).2.1 := by decide +kernel
theorem tyQ_ok : ∀ k, k < 2 → parseFieldDescriptor (TQ k).2.2.1 = some (tyQ k) := by decide +kernel
def RT : String := "PolicyVerifier$Table"
def TT : u_T := fun k => match k with
  | 0 => ("PolicyVerifier$Table", "firstPacket", "[I", true)
  | 1 => ("PolicyVerifier$Table", "fixedFields", "[I", true)
  | 2 => ("PolicyVerifier$Table", "placeOfPacket", "[I", true)
  | _ => ("PolicyVerifier$Table", "size", "I", false)
def tyT : Nat → FieldType := fun k => match k with
  | 0 => .array .int
  | 1 => .array .int
  | 2 => .array .int
  | _ => .int
theorem nmT : ∀ a, a < 4 → ∀ b, b < 4 → a ≠ b → (TT a).2.1 ≠ (TT b).2.1 := by decide +kernel
theorem tyT_ok : ∀ k, k < 4 → parseFieldDescriptor (TT k).2.2.1 = some (tyT k) := by decide +kernel
def RV : String := "PolicyVerifier"
def TV : u_T := fun k => match k with
  | 0 => ("PolicyVerifier", "policies", "[LPolicyVerifier$Policy;", true)
  | 1 => ("PolicyVerifier", "responses", "LPolicyVerifier$Responses;", true)
  | 2 => ("PolicyVerifier", "made", "I", false)
  | _ => ("PolicyVerifier", "different", "I", false)
def tyV : Nat → FieldType := fun k => match k with
  | 0 => .array (.object "PolicyVerifier$Policy")
  | 1 => .object "PolicyVerifier$Responses"
  | 2 => .int
  | _ => .int
theorem nmV : ∀ a, a < 4 → ∀ b, b < 4 → a ≠ b → (TV a).2.1 ≠ (TV b).2.1 := by decide +kernel
theorem tyV_ok : ∀ k, k < 4 → parseFieldDescriptor (TV k).2.2.1 = some (tyV k) := by decide +kernel
def RM : String := "PolicyVerifierModel"
def TM : u_T := fun k => match k with
  | 0 => ("PolicyVerifierModel", "thrown", "I", false)
  | 1 => ("PolicyVerifierModel", "outcomes", "[J", true)
  | 2 => ("PolicyVerifierModel", "filters", "[Z", true)
  | 3 => ("PolicyVerifierModel", "policies", "I", false)
  | 4 => ("PolicyVerifierModel", "low", "J", false)
  | 5 => ("PolicyVerifierModel", "high", "J", false)
  | 6 => ("PolicyVerifierModel", "start", "[I", true)
  | _ => ("PolicyVerifierModel", "extent", "[I", true)
def tyM : Nat → FieldType := fun k => match k with
  | 0 => .int
  | 1 => .array .long
  | 2 => .array .boolean
  | 3 => .int
  | 4 => .long
  | 5 => .long
  | 6 => .array .int
  | _ => .array .int
theorem nmM : ∀ a, a < 8 → ∀ b, b < 8 → a ≠ b → (TM a).2.1 ≠ (TM b).2.1 := by decide +kernel
theorem tyM_ok : ∀ k, k < 8 → parseFieldDescriptor (TM k).2.2.1 = some (tyM k) := by decide +kernel
def RL : String := "PolicyVerifierLaw"
def RJ : String := "java/lang/Long"
abbrev vwCl : List vw_C := [(RP, TP, 3), (RQ, TQ, 2), (RT, TT, 4), (RV, TV, 4), (RM, TM, 8)]
/-- the words that a move to another state keeps -/
def ALL : List Cond := lw_tbl.filter goodWord
theorem ALL_in : ∀ w ∈ ALL, w ∈ lw_tbl := fun w h => (List.mem_filter.mp h).1
theorem ALL_g : ∀ w ∈ ALL, goodWord w = true := fun w h => (List.mem_filter.mp h).2
theorem al_t {w : Cond} (i : Nat) (h : lw_tbl[i]? = some w) (g : goodWord w = true) : w ∈ ALL := List.mem_filter.mpr ⟨List.mem_of_getElem? h, g⟩
abbrev cJ_bitCount : ByteArray := prog_10_method_50_code
def yJ_bitCount : MethodName := ⟨RJ, "bitCount", "(J)I"⟩
def wsJ_bitCount : List Cond := .code yJ_bitCount cJ_bitCount 2 (some .int) :: ALL
abbrev cL_policy : ByteArray := method_3_code
def yL_policy : MethodName := ⟨RL, "policy", "(LPolicyVerifier;IIII[J)I"⟩
def hhL_policy : List (Nat × Nat × Nat × Nat) := [(0, 14, 17, 13), (0, 14, 21, 15), (0, 14, 25, 17)]
def wsL_policy : List Cond := .codeWith yL_policy cL_policy 7 (some .int) [(0, 14, 17, 13), (0, 14, 21, 15), (0, 14, 25, 17)] :: ALL
abbrev cL_outcome : ByteArray := method_4_code
def yL_outcome : MethodName := ⟨RL, "outcome", "(LPolicyVerifier;II[J)I"⟩
def hhL_outcome : List (Nat × Nat × Nat × Nat) := [(0, 9, 12, 23), (0, 9, 16, 13)]
def wsL_outcome : List Cond := .codeWith yL_outcome cL_outcome 5 (some .int) [(0, 9, 12, 23), (0, 9, 16, 13)] :: ALL
abbrev cL_image : ByteArray := method_5_code
def yL_image : MethodName := ⟨RL, "image", "(LPolicyVerifier;IJ[J)I"⟩
def hhL_image : List (Nat × Nat × Nat × Nat) := [(0, 10, 13, 23)]
def wsL_image : List Cond := .codeWith yL_image cL_image 6 (some .int) [(0, 10, 13, 23)] :: ALL
abbrev cL_source : ByteArray := method_6_code
def yL_source : MethodName := ⟨RL, "source", "(LPolicyVerifier;IJ[J)I"⟩
def hhL_source : List (Nat × Nat × Nat × Nat) := [(0, 10, 13, 23)]
def wsL_source : List Cond := .codeWith yL_source cL_source 6 (some .int) [(0, 10, 13, 23)] :: ALL
abbrev cL_filter : ByteArray := method_7_code
def yL_filter : MethodName := ⟨RL, "filter", "(LPolicyVerifier;I[J)I"⟩
def hhL_filter : List (Nat × Nat × Nat × Nat) := [(0, 9, 12, 23)]
def wsL_filter : List Cond := .codeWith yL_filter cL_filter 4 (some .int) [(0, 9, 12, 23)] :: ALL
abbrev cL_same : ByteArray := method_8_code
def yL_same : MethodName := ⟨RL, "same", "(LPolicyVerifier;II[J)I"⟩
def hhL_same : List (Nat × Nat × Nat × Nat) := [(0, 10, 13, 23)]
def wsL_same : List Cond := .codeWith yL_same cL_same 5 (some .int) [(0, 10, 13, 23)] :: ALL
abbrev cL_covers : ByteArray := method_9_code
def yL_covers : MethodName := ⟨RL, "covers", "(LPolicyVerifier;II[J)I"⟩
def hhL_covers : List (Nat × Nat × Nat × Nat) := [(0, 10, 13, 23)]
def wsL_covers : List Cond := .codeWith yL_covers cL_covers 5 (some .int) [(0, 10, 13, 23)] :: ALL
abbrev cL_differ : ByteArray := method_10_code
def yL_differ : MethodName := ⟨RL, "differ", "(LPolicyVerifier;II[J)I"⟩
def hhL_differ : List (Nat × Nat × Nat × Nat) := [(0, 10, 13, 23), (0, 10, 17, 15)]
def wsL_differ : List Cond := .codeWith yL_differ cL_differ 5 (some .int) [(0, 10, 13, 23), (0, 10, 17, 15)] :: ALL
abbrev cL_rules : ByteArray := method_11_code
def yL_rules : MethodName := ⟨RL, "rules", "(LPolicyVerifier;I[J)I"⟩
def hhL_rules : List (Nat × Nat × Nat × Nat) := [(0, 9, 12, 23)]
def wsL_rules : List Cond := .codeWith yL_rules cL_rules 4 (some .int) [(0, 9, 12, 23)] :: ALL
abbrev cL_rule : ByteArray := method_12_code
def yL_rule : MethodName := ⟨RL, "rule", "(LPolicyVerifier;III[J)I"⟩
def hhL_rule : List (Nat × Nat × Nat × Nat) := [(0, 12, 15, 23), (0, 12, 19, 13)]
def wsL_rule : List Cond := .codeWith yL_rule cL_rule 6 (some .int) [(0, 12, 15, 23), (0, 12, 19, 13)] :: ALL
abbrev cL_match : ByteArray := method_13_code
def yL_match : MethodName := ⟨RL, "match", "(LPolicyVerifier;II[J)I"⟩
def hhL_match : List (Nat × Nat × Nat × Nat) := [(0, 10, 13, 23), (0, 10, 17, 13)]
def wsL_match : List Cond := .codeWith yL_match cL_match 5 (some .int) [(0, 10, 13, 23), (0, 10, 17, 13)] :: ALL
abbrev cL_hops : ByteArray := method_14_code
def yL_hops : MethodName := ⟨RL, "hops", "(LPolicyVerifier;IIJ[J)I"⟩
def hhL_hops : List (Nat × Nat × Nat × Nat) := [(0, 12, 15, 23), (0, 12, 19, 13)]
def wsL_hops : List Cond := .codeWith yL_hops cL_hops 7 (some .int) [(0, 12, 15, 23), (0, 12, 19, 13)] :: ALL
abbrev cL_count : ByteArray := method_15_code
def yL_count : MethodName := ⟨RL, "count", "(LPolicyVerifier;I[J)I"⟩
def hhL_count : List (Nat × Nat × Nat × Nat) := [(0, 9, 12, 13)]
def wsL_count : List Cond := .codeWith yL_count cL_count 4 (some .int) [(0, 9, 12, 13)] :: ALL
abbrev cM_init : ByteArray := prog_6_method_1_code
def yM_init : MethodName := ⟨RM, "<init>", "()V"⟩
def wsM_init : List Cond := .code yM_init cM_init 1 none :: ALL
abbrev cM_thrown : ByteArray := prog_6_method_2_code
def yM_thrown : MethodName := ⟨RM, "thrown", "()I"⟩
def wsM_thrown : List Cond := .code yM_thrown cM_thrown 1 (some .int) :: ALL
abbrev cM_raise : ByteArray := prog_6_method_3_code
def yM_raise : MethodName := ⟨RM, "raise", "(I)I"⟩
def wsM_raise : List Cond := .code yM_raise cM_raise 2 (some .int) :: ALL
abbrev cM_in : ByteArray := prog_6_method_4_code
def yM_in : MethodName := ⟨RM, "in", "(III)Z"⟩
def wsM_in : List Cond := .code yM_in cM_in 3 (some .boolean) :: ALL
abbrev cM_made : ByteArray := prog_6_method_5_code
def yM_made : MethodName := ⟨RM, "made", "(I)Z"⟩
def wsM_made : List Cond := .code yM_made cM_made 2 (some .boolean) :: ALL
abbrev cM_value : ByteArray := prog_6_method_6_code
def yM_value : MethodName := ⟨RM, "value", "(II)I"⟩
def wsM_value : List Cond := .code yM_value cM_value 2 (some .int) :: ALL
abbrev cM_with : ByteArray := prog_6_method_7_code
def yM_with : MethodName := ⟨RM, "with", "(III)I"⟩
def wsM_with : List Cond := .code yM_with cM_with 3 (some .int) :: ALL
abbrev cM_all : ByteArray := prog_6_method_8_code
def yM_all : MethodName := ⟨RM, "all", "(IJ)J"⟩
def wsM_all : List Cond := .code yM_all cM_all 7 (some .long) :: ALL
abbrev cM_star : ByteArray := prog_6_method_9_code
def yM_star : MethodName := ⟨RM, "star", "(II)J"⟩
def wsM_star : List Cond := .code yM_star cM_star 6 (some .long) :: ALL
abbrev cM_worked : ByteArray := prog_6_method_10_code
def yM_worked : MethodName := ⟨RM, "worked", "(IIIII)J"⟩
def wsM_worked : List Cond := .code yM_worked cM_worked 8 (some .long) :: ALL
abbrev cM_passes : ByteArray := prog_6_method_11_code
def yM_passes : MethodName := ⟨RM, "passes", "(IIII)Z"⟩
def wsM_passes : List Cond := .code yM_passes cM_passes 5 (some .boolean) :: ALL
abbrev cM_can : ByteArray := prog_6_method_12_code
def yM_can : MethodName := ⟨RM, "can", "(IIII)Z"⟩
def wsM_can : List Cond := .code yM_can cM_can 5 (some .boolean) :: ALL
abbrev cM_policy : ByteArray := prog_6_method_13_code
def yM_policy : MethodName := ⟨RM, "policy", "(IIII)I"⟩
def wsM_policy : List Cond := .code yM_policy cM_policy 6 (some .int) :: ALL
abbrev cM_outcome : ByteArray := prog_6_method_14_code
def yM_outcome : MethodName := ⟨RM, "outcome", "(II)J"⟩
def wsM_outcome : List Cond := .code yM_outcome cM_outcome 3 (some .long) :: ALL
abbrev cM_image : ByteArray := prog_6_method_15_code
def yM_image : MethodName := ⟨RM, "image", "(IJ)J"⟩
def wsM_image : List Cond := .code yM_image cM_image 4 (some .long) :: ALL
abbrev cM_source : ByteArray := prog_6_method_16_code
def yM_source : MethodName := ⟨RM, "source", "(IJ)J"⟩
def wsM_source : List Cond := .code yM_source cM_source 7 (some .long) :: ALL
abbrev cM_filter : ByteArray := prog_6_method_17_code
def yM_filter : MethodName := ⟨RM, "filter", "(I)I"⟩
def wsM_filter : List Cond := .code yM_filter cM_filter 2 (some .int) :: ALL
abbrev cM_apart : ByteArray := prog_6_method_18_code
def yM_apart : MethodName := ⟨RM, "apart", "(II)I"⟩
def wsM_apart : List Cond := .code yM_apart cM_apart 4 (some .int) :: ALL
abbrev cM_same : ByteArray := prog_6_method_19_code
def yM_same : MethodName := ⟨RM, "same", "(II)I"⟩
def wsM_same : List Cond := .code yM_same cM_same 3 (some .int) :: ALL
abbrev cM_covers : ByteArray := prog_6_method_20_code
def yM_covers : MethodName := ⟨RM, "covers", "(II)I"⟩
def wsM_covers : List Cond := .code yM_covers cM_covers 4 (some .int) :: ALL
abbrev cM_differ : ByteArray := prog_6_method_21_code
def yM_differ : MethodName := ⟨RM, "differ", "(II)I"⟩
def wsM_differ : List Cond := .code yM_differ cM_differ 4 (some .int) :: ALL
abbrev cM_action : ByteArray := prog_6_method_22_code
def yM_action : MethodName := ⟨RM, "action", "(II)I"⟩
def wsM_action : List Cond := .code yM_action cM_action 4 (some .int) :: ALL
abbrev cM_respond : ByteArray := prog_6_method_23_code
def yM_respond : MethodName := ⟨RM, "respond", "(II)V"⟩
def wsM_respond : List Cond := .code yM_respond cM_respond 7 none :: ALL
abbrev cM_uniform : ByteArray := prog_6_method_24_code
def yM_uniform : MethodName := ⟨RM, "uniform", "(III)Z"⟩
def wsM_uniform : List Cond := .code yM_uniform cM_uniform 9 (some .boolean) :: ALL
abbrev cM_table : ByteArray := prog_6_method_25_code
def yM_table : MethodName := ⟨RM, "table", "(I)I"⟩
def wsM_table : List Cond := .code yM_table cM_table 5 (some .int) :: ALL
abbrev cM_rules : ByteArray := prog_6_method_26_code
def yM_rules : MethodName := ⟨RM, "rules", "(I)I"⟩
def wsM_rules : List Cond := .code yM_rules cM_rules 2 (some .int) :: ALL
abbrev cM_ones : ByteArray := prog_6_method_27_code
def yM_ones : MethodName := ⟨RM, "ones", "(J)I"⟩
def wsM_ones : List Cond := .code yM_ones cM_ones 4 (some .int) :: ALL
abbrev cM_rule : ByteArray := prog_6_method_28_code
def yM_rule : MethodName := ⟨RM, "rule", "(III)I"⟩
def wsM_rule : List Cond := .code yM_rule cM_rule 5 (some .int) :: ALL
abbrev cM_match : ByteArray := prog_6_method_29_code
def yM_match : MethodName := ⟨RM, "match", "(II)I"⟩
def wsM_match : List Cond := .code yM_match cM_match 5 (some .int) :: ALL
abbrev cM_hops : ByteArray := prog_6_method_30_code
def yM_hops : MethodName := ⟨RM, "hops", "(IIJ)I"⟩
def wsM_hops : List Cond := .code yM_hops cM_hops 8 (some .int) :: ALL
abbrev cM_count : ByteArray := prog_6_method_31_code
def yM_count : MethodName := ⟨RM, "count", "(I)I"⟩
def wsM_count : List Cond := .code yM_count cM_count 5 (some .int) :: ALL
abbrev cP_init : ByteArray := prog_2_method_1_code
def yP_init : MethodName := ⟨RP, "<init>", "(Z)V"⟩
def wsP_init : List Cond := .code yP_init cP_init 2 none :: ALL
abbrev cQ_init : ByteArray := prog_3_method_1_code
def yQ_init : MethodName := ⟨RQ, "<init>", "()V"⟩
def wsQ_init : List Cond := .code yQ_init cQ_init 1 none :: ALL
abbrev cQ_read : ByteArray := prog_3_method_2_code
def yQ_read : MethodName := ⟨RQ, "read", "([J)V"⟩
def wsQ_read : List Cond := .code yQ_read cQ_read 3 none :: ALL
abbrev cQ_readPacket : ByteArray := prog_3_method_3_code
def yQ_readPacket : MethodName := ⟨RQ, "readPacket", "(IJ)V"⟩
def wsQ_readPacket : List Cond := .code yQ_readPacket cQ_readPacket 10 none :: ALL
abbrev cQ_actionFrom : ByteArray := prog_3_method_4_code
def yQ_actionFrom : MethodName := ⟨RQ, "actionFrom", "(II)I"⟩
def wsQ_actionFrom : List Cond := .code yQ_actionFrom cQ_actionFrom 5 (some .int) :: ALL
abbrev cQ_areAlike : ByteArray := prog_3_method_5_code
def yQ_areAlike : MethodName := ⟨RQ, "areAlike", "(II)Z"⟩
def wsQ_areAlike : List Cond := .code yQ_areAlike cQ_areAlike 4 (some .boolean) :: ALL
abbrev cT_init : ByteArray := prog_4_method_1_code
def yT_init : MethodName := ⟨RT, "<init>", "()V"⟩
def wsT_init : List Cond := .code yT_init cT_init 1 none :: ALL
abbrev cT_fill : ByteArray := prog_4_method_2_code
def yT_fill : MethodName := ⟨RT, "fill", "(LPolicyVerifier$Responses;)V"⟩
def wsT_fill : List Cond := .code yT_fill cT_fill 2 none :: ALL
abbrev cT_addRegion : ByteArray := prog_4_method_3_code
def yT_addRegion : MethodName := ⟨RT, "addRegion", "(LPolicyVerifier$Responses;II)V"⟩
def wsT_addRegion : List Cond := .code yT_addRegion cT_addRegion 6 none :: ALL
abbrev cT_addRule : ByteArray := prog_4_method_4_code
def yT_addRule : MethodName := ⟨RT, "addRule", "(III)V"⟩
def wsT_addRule : List Cond := .code yT_addRule cT_addRule 5 none :: ALL
abbrev cV_init : ByteArray := prog_1_method_1_code
def yV_init : MethodName := ⟨RV, "<init>", "()V"⟩
def wsV_init : List Cond := .code yV_init cV_init 1 none :: ALL
abbrev cV_policy : ByteArray := prog_1_method_2_code
def yV_policy : MethodName := ⟨RV, "policy", "(IIII)I"⟩
def wsV_policy : List Cond := .code yV_policy cV_policy 6 (some .int) :: ALL
abbrev cV_outcome : ByteArray := prog_1_method_3_code
def yV_outcome : MethodName := ⟨RV, "outcome", "(II)J"⟩
def wsV_outcome : List Cond := .code yV_outcome cV_outcome 4 (some .long) :: ALL
abbrev cV_image : ByteArray := prog_1_method_4_code
def yV_image : MethodName := ⟨RV, "image", "(IJ)J"⟩
def wsV_image : List Cond := .code yV_image cV_image 4 (some .long) :: ALL
abbrev cV_source : ByteArray := prog_1_method_5_code
def yV_source : MethodName := ⟨RV, "source", "(IJ)J"⟩
def wsV_source : List Cond := .code yV_source cV_source 8 (some .long) :: ALL
abbrev cV_filter : ByteArray := prog_1_method_6_code
def yV_filter : MethodName := ⟨RV, "filter", "(I)I"⟩
def wsV_filter : List Cond := .code yV_filter cV_filter 2 (some .int) :: ALL
abbrev cV_same : ByteArray := prog_1_method_7_code
def yV_same : MethodName := ⟨RV, "same", "(II)I"⟩
def wsV_same : List Cond := .code yV_same cV_same 3 (some .int) :: ALL
abbrev cV_covers : ByteArray := prog_1_method_8_code
def yV_covers : MethodName := ⟨RV, "covers", "(II)I"⟩
def wsV_covers : List Cond := .code yV_covers cV_covers 6 (some .int) :: ALL
abbrev cV_differ : ByteArray := prog_1_method_9_code
def yV_differ : MethodName := ⟨RV, "differ", "(II)I"⟩
def wsV_differ : List Cond := .code yV_differ cV_differ 4 (some .int) :: ALL
abbrev cV_rules : ByteArray := prog_1_method_10_code
def yV_rules : MethodName := ⟨RV, "rules", "(I)I"⟩
def wsV_rules : List Cond := .code yV_rules cV_rules 2 (some .int) :: ALL
abbrev cV_rule : ByteArray := prog_1_method_11_code
def yV_rule : MethodName := ⟨RV, "rule", "(III)I"⟩
def wsV_rule : List Cond := .code yV_rule cV_rule 6 (some .int) :: ALL
abbrev cV_match : ByteArray := prog_1_method_12_code
def yV_match : MethodName := ⟨RV, "match", "(II)I"⟩
def wsV_match : List Cond := .code yV_match cV_match 4 (some .int) :: ALL
abbrev cV_hops : ByteArray := prog_1_method_13_code
def yV_hops : MethodName := ⟨RV, "hops", "(IIJ)I"⟩
def wsV_hops : List Cond := .code yV_hops cV_hops 11 (some .int) :: ALL
abbrev cV_count : ByteArray := prog_1_method_14_code
def yV_count : MethodName := ⟨RV, "count", "(I)I"⟩
def wsV_count : List Cond := .code yV_count cV_count 2 (some .int) :: ALL
abbrev cV_isWellFormed : ByteArray := prog_1_method_15_code
def yV_isWellFormed : MethodName := ⟨RV, "isWellFormed", "(IIII)Z"⟩
def wsV_isWellFormed : List Cond := .code yV_isWellFormed cV_isWellFormed 5 (some .boolean) :: ALL
abbrev cV_isMade : ByteArray := prog_1_method_16_code
def yV_isMade : MethodName := ⟨RV, "isMade", "(I)Z"⟩
def wsV_isMade : List Cond := .code yV_isMade cV_isMade 2 (some .boolean) :: ALL
abbrev cV_find : ByteArray := prog_1_method_17_code
def yV_find : MethodName := ⟨RV, "find", "(I)LPolicyVerifier$Policy;"⟩
def wsV_find : List Cond := .code yV_find cV_find 2 (some (.object "PolicyVerifier$Policy")) :: ALL
abbrev cV_checkPacket : ByteArray := prog_1_method_18_code
def yV_checkPacket : MethodName := ⟨RV, "checkPacket", "(I)V"⟩
def wsV_checkPacket : List Cond := .code yV_checkPacket cV_checkPacket 1 none :: ALL
abbrev cV_isFilter : ByteArray := prog_1_method_19_code
def yV_isFilter : MethodName := ⟨RV, "isFilter", "(IIII)Z"⟩
def wsV_isFilter : List Cond := .code yV_isFilter cV_isFilter 5 (some .boolean) :: ALL
abbrev cV_fillOutcomes : ByteArray := prog_1_method_20_code
def yV_fillOutcomes : MethodName := ⟨RV, "fillOutcomes", "([JIIII)V"⟩
def wsV_fillOutcomes : List Cond := .code yV_fillOutcomes cV_fillOutcomes 7 none :: ALL
abbrev cV_fieldOutcome : ByteArray := prog_1_method_21_code
def yV_fieldOutcome : MethodName := ⟨RV, "fieldOutcome", "(IIII)J"⟩
def wsV_fieldOutcome : List Cond := .code yV_fieldOutcome cV_fieldOutcome 5 (some .long) :: ALL
abbrev cV_joinedOutcome : ByteArray := prog_1_method_22_code
def yV_joinedOutcome : MethodName := ⟨RV, "joinedOutcome", "(IIIII)J"⟩
def wsV_joinedOutcome : List Cond := .code yV_joinedOutcome cV_joinedOutcome 6 (some .long) :: ALL
abbrev cV_given : ByteArray := prog_1_method_23_code
def yV_given : MethodName := ⟨RV, "given", "(II)J"⟩
def wsV_given : List Cond := .code yV_given cV_given 3 (some .long) :: ALL
abbrev cV_closeOverSteps : ByteArray := prog_1_method_24_code
def yV_closeOverSteps : MethodName := ⟨RV, "closeOverSteps", "([J)V"⟩
def wsV_closeOverSteps : List Cond := .code yV_closeOverSteps cV_closeOverSteps 3 none :: ALL
abbrev cV_keep : ByteArray := prog_1_method_25_code
def yV_keep : MethodName := ⟨RV, "keep", "(LPolicyVerifier$Policy;)I"⟩
def wsV_keep : List Cond := .code yV_keep cV_keep 3 (some .int) :: ALL
abbrev cV_isNew : ByteArray := prog_1_method_26_code
def yV_isNew : MethodName := ⟨RV, "isNew", "([J)Z"⟩
def wsV_isNew : List Cond := .code yV_isNew cV_isNew 3 (some .boolean) :: ALL
abbrev cV_tableOf : ByteArray := prog_1_method_27_code
def yV_tableOf : MethodName := ⟨RV, "tableOf", "(LPolicyVerifier$Policy;)LPolicyVerifier$Table;"⟩
def wsV_tableOf : List Cond := .code yV_tableOf cV_tableOf 3 (some (.object "PolicyVerifier$Table")) :: ALL
abbrev cV_givenFor : ByteArray := prog_1_method_28_code
def yV_givenFor : MethodName := ⟨RV, "givenFor", "([JJ)J"⟩
def wsV_givenFor : List Cond := .code yV_givenFor cV_givenFor 6 (some .long) :: ALL
abbrev cV_leastDifference : ByteArray := prog_1_method_29_code
def yV_leastDifference : MethodName := ⟨RV, "leastDifference", "([J[J)I"⟩
def wsV_leastDifference : List Cond := .code yV_leastDifference cV_leastDifference 3 (some .int) :: ALL
abbrev cV_only : ByteArray := prog_1_method_30_code
def yV_only : MethodName := ⟨RV, "only", "(I)J"⟩
def wsV_only : List Cond := .code yV_only cV_only 1 (some .long) :: ALL
abbrev cV_has : ByteArray := prog_1_method_31_code
def yV_has : MethodName := ⟨RV, "has", "(JI)Z"⟩
def wsV_has : List Cond := .code yV_has cV_has 3 (some .boolean) :: ALL
abbrev cV_shiftOf : ByteArray := prog_1_method_32_code
def yV_shiftOf : MethodName := ⟨RV, "shiftOf", "(I)I"⟩
def wsV_shiftOf : List Cond := .code yV_shiftOf cV_shiftOf 1 (some .int) :: ALL
abbrev cV_weightOf : ByteArray := prog_1_method_33_code
def yV_weightOf : MethodName := ⟨RV, "weightOf", "(I)I"⟩
def wsV_weightOf : List Cond := .code yV_weightOf cV_weightOf 1 (some .int) :: ALL
abbrev cV_valueOf : ByteArray := prog_1_method_34_code
def yV_valueOf : MethodName := ⟨RV, "valueOf", "(II)I"⟩
def wsV_valueOf : List Cond := .code yV_valueOf cV_valueOf 2 (some .int) :: ALL
abbrev cL_law : ByteArray := code
end
section
theorem wd0 : ((.selects "PolicyVerifier" ⟨"PolicyVerifier", "isWellFormed", "(IIII)Z"⟩ ⟨"PolicyVerifier", "isWellFormed", "(IIII)Z"⟩) : Cond) ∈ ALL := al_t 0 (by decide +kernel) (by decide +kernel)
theorem wd1 : ((.selects "PolicyVerifier" ⟨"PolicyVerifier", "isMade", "(I)Z"⟩ ⟨"PolicyVerifier", "isMade", "(I)Z"⟩) : Cond) ∈ ALL := al_t 1 (by decide +kernel) (by decide +kernel)
theorem wd2 : ((.selects "java/lang/Throwable" ⟨"java/lang/Throwable", "fillInStackTrace", "(I)Ljava/lang/Throwable;"⟩ ⟨"java/lang/Throwable", "fillInStackTrace", "(I)Ljava/lang/Throwable;"⟩) : Cond) ∈ ALL := al_t 2 (by decide +kernel) (by decide +kernel)
theorem wd3 : ((.selects "PolicyVerifier" ⟨"PolicyVerifier", "isFilter", "(IIII)Z"⟩ ⟨"PolicyVerifier", "isFilter", "(IIII)Z"⟩) : Cond) ∈ ALL := al_t 3 (by decide +kernel) (by decide +kernel)
theorem wd4 : ((.selects "PolicyVerifier" ⟨"PolicyVerifier", "fillOutcomes", "([JIIII)V"⟩ ⟨"PolicyVerifier", "fillOutcomes", "([JIIII)V"⟩) : Cond) ∈ ALL := al_t 4 (by decide +kernel) (by decide +kernel)
theorem wd5 : ((.selects "PolicyVerifier" ⟨"PolicyVerifier", "joinedOutcome", "(IIIII)J"⟩ ⟨"PolicyVerifier", "joinedOutcome", "(IIIII)J"⟩) : Cond) ∈ ALL := al_t 5 (by decide +kernel) (by decide +kernel)
theorem wd6 : ((.selects "PolicyVerifier" ⟨"PolicyVerifier", "given", "(II)J"⟩ ⟨"PolicyVerifier", "given", "(II)J"⟩) : Cond) ∈ ALL := al_t 6 (by decide +kernel) (by decide +kernel)
theorem wd7 : ((.selects "PolicyVerifier" ⟨"PolicyVerifier", "keep", "(LPolicyVerifier$Policy;)I"⟩ ⟨"PolicyVerifier", "keep", "(LPolicyVerifier$Policy;)I"⟩) : Cond) ∈ ALL := al_t 7 (by decide +kernel) (by decide +kernel)
theorem wd8 : ((.selects "PolicyVerifier" ⟨"PolicyVerifier", "isNew", "([J)Z"⟩ ⟨"PolicyVerifier", "isNew", "([J)Z"⟩) : Cond) ∈ ALL := al_t 8 (by decide +kernel) (by decide +kernel)
theorem wd9 : ((.selects "PolicyVerifier" ⟨"PolicyVerifier", "find", "(I)LPolicyVerifier$Policy;"⟩ ⟨"PolicyVerifier", "find", "(I)LPolicyVerifier$Policy;"⟩) : Cond) ∈ ALL := al_t 9 (by decide +kernel) (by decide +kernel)
theorem wd10 : ((.selects "PolicyVerifier" ⟨"PolicyVerifier", "tableOf", "(LPolicyVerifier$Policy;)LPolicyVerifier$Table;"⟩ ⟨"PolicyVerifier", "tableOf", "(LPolicyVerifier$Policy;)LPolicyVerifier$Table;"⟩) : Cond) ∈ ALL := al_t 10 (by decide +kernel) (by decide +kernel)
theorem wd11 : ((.selects "PolicyVerifier$Responses" ⟨"PolicyVerifier$Responses", "readPacket", "(IJ)V"⟩ ⟨"PolicyVerifier$Responses", "readPacket", "(IJ)V"⟩) : Cond) ∈ ALL := al_t 11 (by decide +kernel) (by decide +kernel)
theorem wd12 : ((.selects "PolicyVerifier$Table" ⟨"PolicyVerifier$Table", "addRegion", "(LPolicyVerifier$Responses;II)V"⟩ ⟨"PolicyVerifier$Table", "addRegion", "(LPolicyVerifier$Responses;II)V"⟩) : Cond) ∈ ALL := al_t 12 (by decide +kernel) (by decide +kernel)
theorem wd13 : ((.selects "PolicyVerifier$Table" ⟨"PolicyVerifier$Table", "addRule", "(III)V"⟩ ⟨"PolicyVerifier$Table", "addRule", "(III)V"⟩) : Cond) ∈ ALL := al_t 13 (by decide +kernel) (by decide +kernel)
theorem wd14 : ((.selects "PolicyVerifierModel" ⟨"PolicyVerifierModel", "can", "(IIII)Z"⟩ ⟨"PolicyVerifierModel", "can", "(IIII)Z"⟩) : Cond) ∈ ALL := al_t 14 (by decide +kernel) (by decide +kernel)
theorem wd15 : ((.selects "PolicyVerifierModel" ⟨"PolicyVerifierModel", "made", "(I)Z"⟩ ⟨"PolicyVerifierModel", "made", "(I)Z"⟩) : Cond) ∈ ALL := al_t 15 (by decide +kernel) (by decide +kernel)
theorem wd16 : ((.selects "PolicyVerifierModel" ⟨"PolicyVerifierModel", "raise", "(I)I"⟩ ⟨"PolicyVerifierModel", "raise", "(I)I"⟩) : Cond) ∈ ALL := al_t 16 (by decide +kernel) (by decide +kernel)
theorem wd17 : ((.selects "PolicyVerifierModel" ⟨"PolicyVerifierModel", "worked", "(IIIII)J"⟩ ⟨"PolicyVerifierModel", "worked", "(IIIII)J"⟩) : Cond) ∈ ALL := al_t 17 (by decide +kernel) (by decide +kernel)
theorem wd18 : ((.selects "PolicyVerifierModel" ⟨"PolicyVerifierModel", "all", "(IJ)J"⟩ ⟨"PolicyVerifierModel", "all", "(IJ)J"⟩) : Cond) ∈ ALL := al_t 18 (by decide +kernel) (by decide +kernel)
theorem wd19 : ((.selects "PolicyVerifierModel" ⟨"PolicyVerifierModel", "star", "(II)J"⟩ ⟨"PolicyVerifierModel", "star", "(II)J"⟩) : Cond) ∈ ALL := al_t 19 (by decide +kernel) (by decide +kernel)
theorem wd20 : ((.selects "PolicyVerifierModel" ⟨"PolicyVerifierModel", "passes", "(IIII)Z"⟩ ⟨"PolicyVerifierModel", "passes", "(IIII)Z"⟩) : Cond) ∈ ALL := al_t 20 (by decide +kernel) (by decide +kernel)
theorem wd21 : ((.selects "PolicyVerifierModel" ⟨"PolicyVerifierModel", "apart", "(II)I"⟩ ⟨"PolicyVerifierModel", "apart", "(II)I"⟩) : Cond) ∈ ALL := al_t 21 (by decide +kernel) (by decide +kernel)
theorem wd22 : ((.selects "PolicyVerifierModel" ⟨"PolicyVerifierModel", "table", "(I)I"⟩ ⟨"PolicyVerifierModel", "table", "(I)I"⟩) : Cond) ∈ ALL := al_t 22 (by decide +kernel) (by decide +kernel)
theorem wd23 : ((.selects "PolicyVerifierModel" ⟨"PolicyVerifierModel", "uniform", "(III)Z"⟩ ⟨"PolicyVerifierModel", "uniform", "(III)Z"⟩) : Cond) ∈ ALL := al_t 23 (by decide +kernel) (by decide +kernel)
theorem wd24 : ((.selects "PolicyVerifierModel" ⟨"PolicyVerifierModel", "respond", "(II)V"⟩ ⟨"PolicyVerifierModel", "respond", "(II)V"⟩) : Cond) ∈ ALL := al_t 24 (by decide +kernel) (by decide +kernel)
theorem wd25 : ((.initialized "PolicyVerifierLaw") : Cond) ∈ ALL := al_t 25 (by decide +kernel) (by decide +kernel)
theorem wd26 : ((.initialized "PolicyVerifier") : Cond) ∈ ALL := al_t 26 (by decide +kernel) (by decide +kernel)
theorem wd27 : ((.initialized "PolicyVerifier$Responses") : Cond) ∈ ALL := al_t 27 (by decide +kernel) (by decide +kernel)
theorem wd28 : ((.initialized "PolicyVerifierModel") : Cond) ∈ ALL := al_t 28 (by decide +kernel) (by decide +kernel)
theorem wd29 : ((.initialized "java/lang/Throwable") : Cond) ∈ ALL := al_t 29 (by decide +kernel) (by decide +kernel)
theorem wd30 : ((.initialized "java/lang/Exception") : Cond) ∈ ALL := al_t 30 (by decide +kernel) (by decide +kernel)
theorem wd31 : ((.initialized "java/lang/RuntimeException") : Cond) ∈ ALL := al_t 31 (by decide +kernel) (by decide +kernel)
theorem wd32 : ((.initialized "java/lang/IllegalArgumentException") : Cond) ∈ ALL := al_t 32 (by decide +kernel) (by decide +kernel)
theorem wd33 : ((.initialized "java/lang/UnsupportedOperationException") : Cond) ∈ ALL := al_t 33 (by decide +kernel) (by decide +kernel)
theorem wd34 : ((.initialized "java/lang/IllegalStateException") : Cond) ∈ ALL := al_t 34 (by decide +kernel) (by decide +kernel)
theorem wd35 : ((.initialized "PolicyVerifier$Policy") : Cond) ∈ ALL := al_t 35 (by decide +kernel) (by decide +kernel)
theorem wd36 : ((.initialized "java/util/NoSuchElementException") : Cond) ∈ ALL := al_t 36 (by decide +kernel) (by decide +kernel)
theorem wd37 : ((.initialized "PolicyVerifier$Table") : Cond) ∈ ALL := al_t 37 (by decide +kernel) (by decide +kernel)
theorem wd38 : ((.initialized "java/lang/Long") : Cond) ∈ ALL := al_t 38 (by decide +kernel) (by decide +kernel)
theorem wd39 : ((.classLink "PolicyVerifierLaw" 8 "PolicyVerifier") : Cond) ∈ ALL := al_t 39 (by decide +kernel) (by decide +kernel)
theorem wd40 : ((.instantiable "PolicyVerifier" 4) : Cond) ∈ ALL := al_t 40 (by decide +kernel) (by decide +kernel)
theorem wd41 : ((.methodLink "PolicyVerifierLaw" 63 ⟨"PolicyVerifier", "<init>", "()V"⟩) : Cond) ∈ ALL := al_t 41 (by decide +kernel) (by decide +kernel)
theorem wd42 : ((.instanceMethod ⟨"PolicyVerifier", "<init>", "()V"⟩) : Cond) ∈ ALL := al_t 42 (by decide +kernel) (by decide +kernel)
theorem wd43 : ((.code ⟨"PolicyVerifier", "<init>", "()V"⟩ prog_1_method_1_code 1 none) : Cond) ∈ ALL := al_t 43 (by decide +kernel) (by decide +kernel)
theorem wd44 : ((.methodLink "PolicyVerifier" 1 ⟨"java/lang/Object", "<init>", "()V"⟩) : Cond) ∈ ALL := al_t 44 (by decide +kernel) (by decide +kernel)
theorem wd45 : ((.instanceMethod ⟨"java/lang/Object", "<init>", "()V"⟩) : Cond) ∈ ALL := al_t 45 (by decide +kernel) (by decide +kernel)
theorem wd46 : ((.code ⟨"java/lang/Object", "<init>", "()V"⟩ object_method_1_code 1 none) : Cond) ∈ ALL := al_t 46 (by decide +kernel) (by decide +kernel)
theorem wd47 : ((.classLink "PolicyVerifier" 9 "PolicyVerifier$Policy") : Cond) ∈ ALL := al_t 47 (by decide +kernel) (by decide +kernel)
theorem wd49 : ((.classLink "PolicyVerifier" 15 "PolicyVerifier$Responses") : Cond) ∈ ALL := al_t 49 (by decide +kernel) (by decide +kernel)
theorem wd50 : ((.instantiable "PolicyVerifier$Responses" 2) : Cond) ∈ ALL := al_t 50 (by decide +kernel) (by decide +kernel)
theorem wd51 : ((.methodLink "PolicyVerifier" 17 ⟨"PolicyVerifier$Responses", "<init>", "()V"⟩) : Cond) ∈ ALL := al_t 51 (by decide +kernel) (by decide +kernel)
theorem wd52 : ((.instanceMethod ⟨"PolicyVerifier$Responses", "<init>", "()V"⟩) : Cond) ∈ ALL := al_t 52 (by decide +kernel) (by decide +kernel)
theorem wd53 : ((.code ⟨"PolicyVerifier$Responses", "<init>", "()V"⟩ prog_3_method_1_code 1 none) : Cond) ∈ ALL := al_t 53 (by decide +kernel) (by decide +kernel)
theorem wd54 : ((.methodLink "PolicyVerifier$Responses" 3 ⟨"java/lang/Object", "<init>", "()V"⟩) : Cond) ∈ ALL := al_t 54 (by decide +kernel) (by decide +kernel)
theorem wd55 : ((.fieldLink "PolicyVerifier$Responses" 9 "PolicyVerifier$Responses" "low" "[J") : Cond) ∈ ALL := al_t 55 (by decide +kernel) (by decide +kernel)
theorem wd56 : ((.fieldLink "PolicyVerifier$Responses" 15 "PolicyVerifier$Responses" "high" "[J") : Cond) ∈ ALL := al_t 56 (by decide +kernel) (by decide +kernel)
theorem wd57 : ((.laysFinal "PolicyVerifier$Responses" "PolicyVerifier$Responses" "low" "[J") : Cond) ∈ ALL := al_t 57 (by decide +kernel) (by decide +kernel)
theorem wd59 : ((.laysFinal "PolicyVerifier$Responses" "PolicyVerifier$Responses" "high" "[J") : Cond) ∈ ALL := al_t 59 (by decide +kernel) (by decide +kernel)
theorem wd62 : ((.arrayClass .long) : Cond) ∈ ALL := al_t 62 (by decide +kernel) (by decide +kernel)
theorem wd63 : ((.fieldLink "PolicyVerifier" 11 "PolicyVerifier" "policies" "[LPolicyVerifier$Policy;") : Cond) ∈ ALL := al_t 63 (by decide +kernel) (by decide +kernel)
theorem wd64 : ((.fieldLink "PolicyVerifier" 18 "PolicyVerifier" "responses" "LPolicyVerifier$Responses;") : Cond) ∈ ALL := al_t 64 (by decide +kernel) (by decide +kernel)
theorem wd65 : ((.fieldLink "PolicyVerifier" 22 "PolicyVerifier" "made" "I") : Cond) ∈ ALL := al_t 65 (by decide +kernel) (by decide +kernel)
theorem wd66 : ((.fieldLink "PolicyVerifier" 26 "PolicyVerifier" "different" "I") : Cond) ∈ ALL := al_t 66 (by decide +kernel) (by decide +kernel)
theorem wd67 : ((.laysFinal "PolicyVerifier" "PolicyVerifier" "policies" "[LPolicyVerifier$Policy;") : Cond) ∈ ALL := al_t 67 (by decide +kernel) (by decide +kernel)
theorem wd69 : ((.laysFinal "PolicyVerifier" "PolicyVerifier" "responses" "LPolicyVerifier$Responses;") : Cond) ∈ ALL := al_t 69 (by decide +kernel) (by decide +kernel)
theorem wd71 : ((.lays "PolicyVerifier" "PolicyVerifier" "made" "I") : Cond) ∈ ALL := al_t 71 (by decide +kernel) (by decide +kernel)
theorem wd73 : ((.lays "PolicyVerifier" "PolicyVerifier" "different" "I") : Cond) ∈ ALL := al_t 73 (by decide +kernel) (by decide +kernel)
theorem wd76 : ((.methodLink "PolicyVerifierLaw" 67 ⟨"PolicyVerifierLaw", "policy", "(LPolicyVerifier;IIII[J)I"⟩) : Cond) ∈ ALL := al_t 76 (by decide +kernel) (by decide +kernel)
theorem wd77 : ((.static ⟨"PolicyVerifierLaw", "policy", "(LPolicyVerifier;IIII[J)I"⟩) : Cond) ∈ ALL := al_t 77 (by decide +kernel) (by decide +kernel)
theorem wd78 : ((.codeWith ⟨"PolicyVerifierLaw", "policy", "(LPolicyVerifier;IIII[J)I"⟩ method_3_code 7 (some .int) [(0, 14, 17, 13), (0, 14, 21, 15), (0, 14, 25, 17)]) : Cond) ∈ ALL := al_t 78 (by decide +kernel) (by decide +kernel)
theorem wd79 : ((.classLink "PolicyVerifierLaw" 13 "java/lang/IllegalArgumentException") : Cond) ∈ ALL := al_t 79 (by decide +kernel) (by decide +kernel)
theorem wd80 : ((.classLink "PolicyVerifierLaw" 15 "java/lang/UnsupportedOperationException") : Cond) ∈ ALL := al_t 80 (by decide +kernel) (by decide +kernel)
theorem wd81 : ((.classLink "PolicyVerifierLaw" 17 "java/lang/IllegalStateException") : Cond) ∈ ALL := al_t 81 (by decide +kernel) (by decide +kernel)
theorem wd82 : ((.methodLink "PolicyVerifierLaw" 7 ⟨"PolicyVerifier", "policy", "(IIII)I"⟩) : Cond) ∈ ALL := al_t 82 (by decide +kernel) (by decide +kernel)
theorem wd83 : ((.instanceMethod ⟨"PolicyVerifier", "policy", "(IIII)I"⟩) : Cond) ∈ ALL := al_t 83 (by decide +kernel) (by decide +kernel)
theorem wd84 : ((.selects "PolicyVerifier" ⟨"PolicyVerifier", "policy", "(IIII)I"⟩ ⟨"PolicyVerifier", "policy", "(IIII)I"⟩) : Cond) ∈ ALL := al_t 84 (by decide +kernel) (by decide +kernel)
theorem wd85 : ((.code ⟨"PolicyVerifier", "policy", "(IIII)I"⟩ prog_1_method_2_code 6 (some .int)) : Cond) ∈ ALL := al_t 85 (by decide +kernel) (by decide +kernel)
theorem wd86 : ((.methodLink "PolicyVerifier" 29 ⟨"PolicyVerifier", "isWellFormed", "(IIII)Z"⟩) : Cond) ∈ ALL := al_t 86 (by decide +kernel) (by decide +kernel)
theorem wd88 : ((.instanceMethod ⟨"PolicyVerifier", "isWellFormed", "(IIII)Z"⟩) : Cond) ∈ ALL := al_t 88 (by decide +kernel) (by decide +kernel)
theorem wd89 : ((.code ⟨"PolicyVerifier", "isWellFormed", "(IIII)Z"⟩ prog_1_method_15_code 5 (some .boolean)) : Cond) ∈ ALL := al_t 89 (by decide +kernel) (by decide +kernel)
theorem wd90 : ((.methodLink "PolicyVerifier" 118 ⟨"PolicyVerifier", "isMade", "(I)Z"⟩) : Cond) ∈ ALL := al_t 90 (by decide +kernel) (by decide +kernel)
theorem wd92 : ((.instanceMethod ⟨"PolicyVerifier", "isMade", "(I)Z"⟩) : Cond) ∈ ALL := al_t 92 (by decide +kernel) (by decide +kernel)
theorem wd93 : ((.code ⟨"PolicyVerifier", "isMade", "(I)Z"⟩ prog_1_method_16_code 2 (some .boolean)) : Cond) ∈ ALL := al_t 93 (by decide +kernel) (by decide +kernel)
theorem wd94 : ((.classLink "PolicyVerifier" 33 "java/lang/IllegalArgumentException") : Cond) ∈ ALL := al_t 94 (by decide +kernel) (by decide +kernel)
theorem wd95 : ((.instantiable "java/lang/IllegalArgumentException" 6) : Cond) ∈ ALL := al_t 95 (by decide +kernel) (by decide +kernel)
theorem wd103 : ((.selects "java/lang/IllegalArgumentException" ⟨"java/lang/Throwable", "fillInStackTrace", "(I)Ljava/lang/Throwable;"⟩ ⟨"java/lang/Throwable", "fillInStackTrace", "(I)Ljava/lang/Throwable;"⟩) : Cond) ∈ ALL := al_t 103 (by decide +kernel) (by decide +kernel)
theorem wd104 : ((.selects "java/lang/IllegalArgumentException" ⟨"java/lang/Throwable", "fillInStackTrace", "()Ljava/lang/Throwable;"⟩ ⟨"java/lang/Throwable", "fillInStackTrace", "()Ljava/lang/Throwable;"⟩) : Cond) ∈ ALL := al_t 104 (by decide +kernel) (by decide +kernel)
theorem wd105 : ((.lays "java/lang/IllegalArgumentException" "java/lang/Throwable" "cause" "Ljava/lang/Throwable;") : Cond) ∈ ALL := al_t 105 (by decide +kernel) (by decide +kernel)
theorem wd106 : ((.lays "java/lang/Throwable" "java/lang/Throwable" "cause" "Ljava/lang/Throwable;") : Cond) ∈ ALL := al_t 106 (by decide +kernel) (by decide +kernel)
theorem wd107 : ((.lays "java/lang/IllegalArgumentException" "java/lang/Throwable" "stackTrace" "[Ljava/lang/StackTraceElement;") : Cond) ∈ ALL := al_t 107 (by decide +kernel) (by decide +kernel)
theorem wd108 : ((.lays "java/lang/Throwable" "java/lang/Throwable" "stackTrace" "[Ljava/lang/StackTraceElement;") : Cond) ∈ ALL := al_t 108 (by decide +kernel) (by decide +kernel)
theorem wd109 : ((.lays "java/lang/IllegalArgumentException" "java/lang/Throwable" "suppressedExceptions" "Ljava/util/List;") : Cond) ∈ ALL := al_t 109 (by decide +kernel) (by decide +kernel)
theorem wd110 : ((.lays "java/lang/Throwable" "java/lang/Throwable" "suppressedExceptions" "Ljava/util/List;") : Cond) ∈ ALL := al_t 110 (by decide +kernel) (by decide +kernel)
theorem wd111 : ((.lays "java/lang/IllegalArgumentException" "java/lang/Throwable" "detailMessage" "Ljava/lang/String;") : Cond) ∈ ALL := al_t 111 (by decide +kernel) (by decide +kernel)
theorem wd112 : ((.lays "java/lang/Throwable" "java/lang/Throwable" "detailMessage" "Ljava/lang/String;") : Cond) ∈ ALL := al_t 112 (by decide +kernel) (by decide +kernel)
theorem wd113 : ((.lays "java/lang/IllegalArgumentException" "java/lang/Throwable" "backtrace" "Ljava/lang/Object;") : Cond) ∈ ALL := al_t 113 (by decide +kernel) (by decide +kernel)
theorem wd114 : ((.lays "java/lang/Throwable" "java/lang/Throwable" "backtrace" "Ljava/lang/Object;") : Cond) ∈ ALL := al_t 114 (by decide +kernel) (by decide +kernel)
theorem wd115 : ((.fieldLink "java/lang/Throwable" 198 "java/lang/Throwable" "backtrace" "Ljava/lang/Object;") : Cond) ∈ ALL := al_t 115 (by decide +kernel) (by decide +kernel)
theorem wd117 : ((.instanceMethod ⟨"java/lang/Throwable", "<init>", "()V"⟩) : Cond) ∈ ALL := al_t 117 (by decide +kernel) (by decide +kernel)
theorem wd118 : ((.code ⟨"java/lang/Throwable", "<init>", "()V"⟩ prog_12_method_1_code 1 none) : Cond) ∈ ALL := al_t 118 (by decide +kernel) (by decide +kernel)
theorem wd119 : ((.methodLink "java/lang/Throwable" 1 ⟨"java/lang/Object", "<init>", "()V"⟩) : Cond) ∈ ALL := al_t 119 (by decide +kernel) (by decide +kernel)
theorem wd120 : ((.fieldLink "java/lang/Throwable" 13 "java/lang/Throwable" "UNASSIGNED_STACK" "[Ljava/lang/StackTraceElement;") : Cond) ∈ ALL := al_t 120 (by decide +kernel) (by decide +kernel)
theorem wd122 : ((.fieldLink "java/lang/Throwable" 20 "java/lang/Throwable" "SUPPRESSED_SENTINEL" "Ljava/util/List;") : Cond) ∈ ALL := al_t 122 (by decide +kernel) (by decide +kernel)
theorem wd124 : ((.methodLink "java/lang/Throwable" 27 ⟨"java/lang/Throwable", "fillInStackTrace", "()Ljava/lang/Throwable;"⟩) : Cond) ∈ ALL := al_t 124 (by decide +kernel) (by decide +kernel)
theorem wd125 : ((.instanceMethod ⟨"java/lang/Throwable", "fillInStackTrace", "()Ljava/lang/Throwable;"⟩) : Cond) ∈ ALL := al_t 125 (by decide +kernel) (by decide +kernel)
theorem wd127 : ((.selects "java/lang/IllegalStateException" ⟨"java/lang/Throwable", "fillInStackTrace", "()Ljava/lang/Throwable;"⟩ ⟨"java/lang/Throwable", "fillInStackTrace", "()Ljava/lang/Throwable;"⟩) : Cond) ∈ ALL := al_t 127 (by decide +kernel) (by decide +kernel)
theorem wd128 : ((.selects "java/lang/UnsupportedOperationException" ⟨"java/lang/Throwable", "fillInStackTrace", "()Ljava/lang/Throwable;"⟩ ⟨"java/lang/Throwable", "fillInStackTrace", "()Ljava/lang/Throwable;"⟩) : Cond) ∈ ALL := al_t 128 (by decide +kernel) (by decide +kernel)
theorem wd129 : ((.selects "java/util/NoSuchElementException" ⟨"java/lang/Throwable", "fillInStackTrace", "()Ljava/lang/Throwable;"⟩ ⟨"java/lang/Throwable", "fillInStackTrace", "()Ljava/lang/Throwable;"⟩) : Cond) ∈ ALL := al_t 129 (by decide +kernel) (by decide +kernel)
theorem wd131 : ((.methodLink "java/lang/Throwable" 202 ⟨"java/lang/Throwable", "fillInStackTrace", "(I)Ljava/lang/Throwable;"⟩) : Cond) ∈ ALL := al_t 131 (by decide +kernel) (by decide +kernel)
theorem wd133 : ((.instanceMethod ⟨"java/lang/Throwable", "fillInStackTrace", "(I)Ljava/lang/Throwable;"⟩) : Cond) ∈ ALL := al_t 133 (by decide +kernel) (by decide +kernel)
theorem wd134 : ((.instantiable "java/lang/Throwable" 6) : Cond) ∈ ALL := al_t 134 (by decide +kernel) (by decide +kernel)
theorem wd136 : ((.methodLink "PolicyVerifier" 35 ⟨"java/lang/IllegalArgumentException", "<init>", "()V"⟩) : Cond) ∈ ALL := al_t 136 (by decide +kernel) (by decide +kernel)
theorem wd137 : ((.instanceMethod ⟨"java/lang/IllegalArgumentException", "<init>", "()V"⟩) : Cond) ∈ ALL := al_t 137 (by decide +kernel) (by decide +kernel)
theorem wd138 : ((.code ⟨"java/lang/IllegalArgumentException", "<init>", "()V"⟩ prog_8_method_1_code 1 none) : Cond) ∈ ALL := al_t 138 (by decide +kernel) (by decide +kernel)
theorem wd139 : ((.methodLink "java/lang/IllegalArgumentException" 1 ⟨"java/lang/RuntimeException", "<init>", "()V"⟩) : Cond) ∈ ALL := al_t 139 (by decide +kernel) (by decide +kernel)
theorem wd140 : ((.instanceMethod ⟨"java/lang/RuntimeException", "<init>", "()V"⟩) : Cond) ∈ ALL := al_t 140 (by decide +kernel) (by decide +kernel)
theorem wd141 : ((.code ⟨"java/lang/RuntimeException", "<init>", "()V"⟩ prog_11_method_1_code 1 none) : Cond) ∈ ALL := al_t 141 (by decide +kernel) (by decide +kernel)
theorem wd142 : ((.methodLink "java/lang/RuntimeException" 1 ⟨"java/lang/Exception", "<init>", "()V"⟩) : Cond) ∈ ALL := al_t 142 (by decide +kernel) (by decide +kernel)
theorem wd143 : ((.instanceMethod ⟨"java/lang/Exception", "<init>", "()V"⟩) : Cond) ∈ ALL := al_t 143 (by decide +kernel) (by decide +kernel)
theorem wd144 : ((.code ⟨"java/lang/Exception", "<init>", "()V"⟩ prog_7_method_1_code 1 none) : Cond) ∈ ALL := al_t 144 (by decide +kernel) (by decide +kernel)
theorem wd145 : ((.methodLink "java/lang/Exception" 1 ⟨"java/lang/Throwable", "<init>", "()V"⟩) : Cond) ∈ ALL := al_t 145 (by decide +kernel) (by decide +kernel)
theorem wd147 : ((.fieldLink "java/lang/Throwable" 7 "java/lang/Throwable" "cause" "Ljava/lang/Throwable;") : Cond) ∈ ALL := al_t 147 (by decide +kernel) (by decide +kernel)
theorem wd148 : ((.fieldLink "java/lang/Throwable" 17 "java/lang/Throwable" "stackTrace" "[Ljava/lang/StackTraceElement;") : Cond) ∈ ALL := al_t 148 (by decide +kernel) (by decide +kernel)
theorem wd149 : ((.fieldLink "java/lang/Throwable" 24 "java/lang/Throwable" "suppressedExceptions" "Ljava/util/List;") : Cond) ∈ ALL := al_t 149 (by decide +kernel) (by decide +kernel)
theorem wd154 : ((.lays "java/lang/IllegalArgumentException" "java/lang/Throwable" "depth" "I") : Cond) ∈ ALL := al_t 154 (by decide +kernel) (by decide +kernel)
theorem wd158 : ((.classLink "PolicyVerifier" 40 "java/lang/UnsupportedOperationException") : Cond) ∈ ALL := al_t 158 (by decide +kernel) (by decide +kernel)
theorem wd159 : ((.instantiable "java/lang/UnsupportedOperationException" 6) : Cond) ∈ ALL := al_t 159 (by decide +kernel) (by decide +kernel)
theorem wd161 : ((.selects "java/lang/UnsupportedOperationException" ⟨"java/lang/Throwable", "fillInStackTrace", "(I)Ljava/lang/Throwable;"⟩ ⟨"java/lang/Throwable", "fillInStackTrace", "(I)Ljava/lang/Throwable;"⟩) : Cond) ∈ ALL := al_t 161 (by decide +kernel) (by decide +kernel)
theorem wd162 : ((.lays "java/lang/UnsupportedOperationException" "java/lang/Throwable" "cause" "Ljava/lang/Throwable;") : Cond) ∈ ALL := al_t 162 (by decide +kernel) (by decide +kernel)
theorem wd163 : ((.lays "java/lang/UnsupportedOperationException" "java/lang/Throwable" "stackTrace" "[Ljava/lang/StackTraceElement;") : Cond) ∈ ALL := al_t 163 (by decide +kernel) (by decide +kernel)
theorem wd164 : ((.lays "java/lang/UnsupportedOperationException" "java/lang/Throwable" "suppressedExceptions" "Ljava/util/List;") : Cond) ∈ ALL := al_t 164 (by decide +kernel) (by decide +kernel)
theorem wd165 : ((.lays "java/lang/UnsupportedOperationException" "java/lang/Throwable" "detailMessage" "Ljava/lang/String;") : Cond) ∈ ALL := al_t 165 (by decide +kernel) (by decide +kernel)
theorem wd166 : ((.lays "java/lang/UnsupportedOperationException" "java/lang/Throwable" "backtrace" "Ljava/lang/Object;") : Cond) ∈ ALL := al_t 166 (by decide +kernel) (by decide +kernel)
theorem wd167 : ((.methodLink "PolicyVerifier" 42 ⟨"java/lang/UnsupportedOperationException", "<init>", "()V"⟩) : Cond) ∈ ALL := al_t 167 (by decide +kernel) (by decide +kernel)
theorem wd168 : ((.instanceMethod ⟨"java/lang/UnsupportedOperationException", "<init>", "()V"⟩) : Cond) ∈ ALL := al_t 168 (by decide +kernel) (by decide +kernel)
theorem wd169 : ((.code ⟨"java/lang/UnsupportedOperationException", "<init>", "()V"⟩ prog_13_method_1_code 1 none) : Cond) ∈ ALL := al_t 169 (by decide +kernel) (by decide +kernel)
theorem wd170 : ((.methodLink "java/lang/UnsupportedOperationException" 1 ⟨"java/lang/RuntimeException", "<init>", "()V"⟩) : Cond) ∈ ALL := al_t 170 (by decide +kernel) (by decide +kernel)
theorem wd171 : ((.lays "java/lang/UnsupportedOperationException" "java/lang/Throwable" "depth" "I") : Cond) ∈ ALL := al_t 171 (by decide +kernel) (by decide +kernel)
theorem wd173 : ((.classLink "PolicyVerifier" 43 "java/lang/IllegalStateException") : Cond) ∈ ALL := al_t 173 (by decide +kernel) (by decide +kernel)
theorem wd174 : ((.instantiable "java/lang/IllegalStateException" 6) : Cond) ∈ ALL := al_t 174 (by decide +kernel) (by decide +kernel)
theorem wd176 : ((.selects "java/lang/IllegalStateException" ⟨"java/lang/Throwable", "fillInStackTrace", "(I)Ljava/lang/Throwable;"⟩ ⟨"java/lang/Throwable", "fillInStackTrace", "(I)Ljava/lang/Throwable;"⟩) : Cond) ∈ ALL := al_t 176 (by decide +kernel) (by decide +kernel)
theorem wd177 : ((.lays "java/lang/IllegalStateException" "java/lang/Throwable" "cause" "Ljava/lang/Throwable;") : Cond) ∈ ALL := al_t 177 (by decide +kernel) (by decide +kernel)
theorem wd178 : ((.lays "java/lang/IllegalStateException" "java/lang/Throwable" "stackTrace" "[Ljava/lang/StackTraceElement;") : Cond) ∈ ALL := al_t 178 (by decide +kernel) (by decide +kernel)
theorem wd179 : ((.lays "java/lang/IllegalStateException" "java/lang/Throwable" "suppressedExceptions" "Ljava/util/List;") : Cond) ∈ ALL := al_t 179 (by decide +kernel) (by decide +kernel)
theorem wd180 : ((.lays "java/lang/IllegalStateException" "java/lang/Throwable" "detailMessage" "Ljava/lang/String;") : Cond) ∈ ALL := al_t 180 (by decide +kernel) (by decide +kernel)
theorem wd181 : ((.lays "java/lang/IllegalStateException" "java/lang/Throwable" "backtrace" "Ljava/lang/Object;") : Cond) ∈ ALL := al_t 181 (by decide +kernel) (by decide +kernel)
theorem wd182 : ((.methodLink "PolicyVerifier" 45 ⟨"java/lang/IllegalStateException", "<init>", "()V"⟩) : Cond) ∈ ALL := al_t 182 (by decide +kernel) (by decide +kernel)
theorem wd183 : ((.instanceMethod ⟨"java/lang/IllegalStateException", "<init>", "()V"⟩) : Cond) ∈ ALL := al_t 183 (by decide +kernel) (by decide +kernel)
theorem wd184 : ((.code ⟨"java/lang/IllegalStateException", "<init>", "()V"⟩ prog_9_method_1_code 1 none) : Cond) ∈ ALL := al_t 184 (by decide +kernel) (by decide +kernel)
theorem wd185 : ((.methodLink "java/lang/IllegalStateException" 1 ⟨"java/lang/RuntimeException", "<init>", "()V"⟩) : Cond) ∈ ALL := al_t 185 (by decide +kernel) (by decide +kernel)
theorem wd186 : ((.lays "java/lang/IllegalStateException" "java/lang/Throwable" "depth" "I") : Cond) ∈ ALL := al_t 186 (by decide +kernel) (by decide +kernel)
theorem wd188 : ((.instantiable "PolicyVerifier$Policy" 3) : Cond) ∈ ALL := al_t 188 (by decide +kernel) (by decide +kernel)
theorem wd189 : ((.methodLink "PolicyVerifier" 46 ⟨"PolicyVerifier", "isFilter", "(IIII)Z"⟩) : Cond) ∈ ALL := al_t 189 (by decide +kernel) (by decide +kernel)
theorem wd191 : ((.instanceMethod ⟨"PolicyVerifier", "isFilter", "(IIII)Z"⟩) : Cond) ∈ ALL := al_t 191 (by decide +kernel) (by decide +kernel)
theorem wd192 : ((.code ⟨"PolicyVerifier", "isFilter", "(IIII)Z"⟩ prog_1_method_19_code 5 (some .boolean)) : Cond) ∈ ALL := al_t 192 (by decide +kernel) (by decide +kernel)
theorem wd193 : ((.methodLink "PolicyVerifier" 49 ⟨"PolicyVerifier$Policy", "<init>", "(Z)V"⟩) : Cond) ∈ ALL := al_t 193 (by decide +kernel) (by decide +kernel)
theorem wd194 : ((.instanceMethod ⟨"PolicyVerifier$Policy", "<init>", "(Z)V"⟩) : Cond) ∈ ALL := al_t 194 (by decide +kernel) (by decide +kernel)
theorem wd195 : ((.code ⟨"PolicyVerifier$Policy", "<init>", "(Z)V"⟩ prog_2_method_1_code 2 none) : Cond) ∈ ALL := al_t 195 (by decide +kernel) (by decide +kernel)
theorem wd196 : ((.methodLink "PolicyVerifier$Policy" 3 ⟨"java/lang/Object", "<init>", "()V"⟩) : Cond) ∈ ALL := al_t 196 (by decide +kernel) (by decide +kernel)
theorem wd197 : ((.fieldLink "PolicyVerifier$Policy" 9 "PolicyVerifier$Policy" "filtering" "Z") : Cond) ∈ ALL := al_t 197 (by decide +kernel) (by decide +kernel)
theorem wd198 : ((.fieldLink "PolicyVerifier" 36 "PolicyVerifier$Policy" "filtering" "Z") : Cond) ∈ ALL := al_t 198 (by decide +kernel) (by decide +kernel)
theorem wd199 : ((.fieldLink "PolicyVerifier$Policy" 15 "PolicyVerifier$Policy" "outcomes" "[J") : Cond) ∈ ALL := al_t 199 (by decide +kernel) (by decide +kernel)
theorem wd200 : ((.fieldLink "PolicyVerifier" 52 "PolicyVerifier$Policy" "outcomes" "[J") : Cond) ∈ ALL := al_t 200 (by decide +kernel) (by decide +kernel)
theorem wd201 : ((.fieldLink "PolicyVerifier$Policy" 19 "PolicyVerifier$Policy" "table" "LPolicyVerifier$Table;") : Cond) ∈ ALL := al_t 201 (by decide +kernel) (by decide +kernel)
theorem wd202 : ((.fieldLink "PolicyVerifier" 150 "PolicyVerifier$Policy" "table" "LPolicyVerifier$Table;") : Cond) ∈ ALL := al_t 202 (by decide +kernel) (by decide +kernel)
theorem wd203 : ((.laysFinal "PolicyVerifier$Policy" "PolicyVerifier$Policy" "filtering" "Z") : Cond) ∈ ALL := al_t 203 (by decide +kernel) (by decide +kernel)
theorem wd205 : ((.laysFinal "PolicyVerifier$Policy" "PolicyVerifier$Policy" "outcomes" "[J") : Cond) ∈ ALL := al_t 205 (by decide +kernel) (by decide +kernel)
theorem wd207 : ((.lays "PolicyVerifier$Policy" "PolicyVerifier$Policy" "table" "LPolicyVerifier$Table;") : Cond) ∈ ALL := al_t 207 (by decide +kernel) (by decide +kernel)
theorem wd210 : ((.methodLink "PolicyVerifier" 56 ⟨"PolicyVerifier", "fillOutcomes", "([JIIII)V"⟩) : Cond) ∈ ALL := al_t 210 (by decide +kernel) (by decide +kernel)
theorem wd212 : ((.instanceMethod ⟨"PolicyVerifier", "fillOutcomes", "([JIIII)V"⟩) : Cond) ∈ ALL := al_t 212 (by decide +kernel) (by decide +kernel)
theorem wd213 : ((.code ⟨"PolicyVerifier", "fillOutcomes", "([JIIII)V"⟩ prog_1_method_20_code 7 none) : Cond) ∈ ALL := al_t 213 (by decide +kernel) (by decide +kernel)
theorem wd214 : ((.methodLink "PolicyVerifier" 122 ⟨"PolicyVerifier", "fieldOutcome", "(IIII)J"⟩) : Cond) ∈ ALL := al_t 214 (by decide +kernel) (by decide +kernel)
theorem wd215 : ((.static ⟨"PolicyVerifier", "fieldOutcome", "(IIII)J"⟩) : Cond) ∈ ALL := al_t 215 (by decide +kernel) (by decide +kernel)
theorem wd216 : ((.code ⟨"PolicyVerifier", "fieldOutcome", "(IIII)J"⟩ prog_1_method_21_code 5 (some .long)) : Cond) ∈ ALL := al_t 216 (by decide +kernel) (by decide +kernel)
theorem wd217 : ((.methodLink "PolicyVerifier" 111 ⟨"PolicyVerifier", "valueOf", "(II)I"⟩) : Cond) ∈ ALL := al_t 217 (by decide +kernel) (by decide +kernel)
theorem wd218 : ((.static ⟨"PolicyVerifier", "valueOf", "(II)I"⟩) : Cond) ∈ ALL := al_t 218 (by decide +kernel) (by decide +kernel)
theorem wd219 : ((.code ⟨"PolicyVerifier", "valueOf", "(II)I"⟩ prog_1_method_34_code 2 (some .int)) : Cond) ∈ ALL := al_t 219 (by decide +kernel) (by decide +kernel)
theorem wd220 : ((.methodLink "PolicyVerifier" 162 ⟨"PolicyVerifier", "shiftOf", "(I)I"⟩) : Cond) ∈ ALL := al_t 220 (by decide +kernel) (by decide +kernel)
theorem wd221 : ((.static ⟨"PolicyVerifier", "shiftOf", "(I)I"⟩) : Cond) ∈ ALL := al_t 221 (by decide +kernel) (by decide +kernel)
theorem wd222 : ((.code ⟨"PolicyVerifier", "shiftOf", "(I)I"⟩ prog_1_method_32_code 1 (some .int)) : Cond) ∈ ALL := al_t 222 (by decide +kernel) (by decide +kernel)
theorem wd223 : ((.methodLink "PolicyVerifier" 134 ⟨"PolicyVerifier", "weightOf", "(I)I"⟩) : Cond) ∈ ALL := al_t 223 (by decide +kernel) (by decide +kernel)
theorem wd224 : ((.static ⟨"PolicyVerifier", "weightOf", "(I)I"⟩) : Cond) ∈ ALL := al_t 224 (by decide +kernel) (by decide +kernel)
theorem wd225 : ((.code ⟨"PolicyVerifier", "weightOf", "(I)I"⟩ prog_1_method_33_code 1 (some .int)) : Cond) ∈ ALL := al_t 225 (by decide +kernel) (by decide +kernel)
theorem wd226 : ((.methodLink "PolicyVerifier" 76 ⟨"PolicyVerifier", "only", "(I)J"⟩) : Cond) ∈ ALL := al_t 226 (by decide +kernel) (by decide +kernel)
theorem wd227 : ((.static ⟨"PolicyVerifier", "only", "(I)J"⟩) : Cond) ∈ ALL := al_t 227 (by decide +kernel) (by decide +kernel)
theorem wd228 : ((.code ⟨"PolicyVerifier", "only", "(I)J"⟩ prog_1_method_30_code 1 (some .long)) : Cond) ∈ ALL := al_t 228 (by decide +kernel) (by decide +kernel)
theorem wd229 : ((.methodLink "PolicyVerifier" 126 ⟨"PolicyVerifier", "joinedOutcome", "(IIIII)J"⟩) : Cond) ∈ ALL := al_t 229 (by decide +kernel) (by decide +kernel)
theorem wd231 : ((.instanceMethod ⟨"PolicyVerifier", "joinedOutcome", "(IIIII)J"⟩) : Cond) ∈ ALL := al_t 231 (by decide +kernel) (by decide +kernel)
theorem wd232 : ((.code ⟨"PolicyVerifier", "joinedOutcome", "(IIIII)J"⟩ prog_1_method_22_code 6 (some .long)) : Cond) ∈ ALL := al_t 232 (by decide +kernel) (by decide +kernel)
theorem wd233 : ((.methodLink "PolicyVerifier" 138 ⟨"PolicyVerifier", "given", "(II)J"⟩) : Cond) ∈ ALL := al_t 233 (by decide +kernel) (by decide +kernel)
theorem wd235 : ((.instanceMethod ⟨"PolicyVerifier", "given", "(II)J"⟩) : Cond) ∈ ALL := al_t 235 (by decide +kernel) (by decide +kernel)
theorem wd236 : ((.code ⟨"PolicyVerifier", "given", "(II)J"⟩ prog_1_method_23_code 3 (some .long)) : Cond) ∈ ALL := al_t 236 (by decide +kernel) (by decide +kernel)
theorem wd237 : ((.methodLink "PolicyVerifier" 72 ⟨"PolicyVerifier", "givenFor", "([JJ)J"⟩) : Cond) ∈ ALL := al_t 237 (by decide +kernel) (by decide +kernel)
theorem wd238 : ((.static ⟨"PolicyVerifier", "givenFor", "([JJ)J"⟩) : Cond) ∈ ALL := al_t 238 (by decide +kernel) (by decide +kernel)
theorem wd239 : ((.code ⟨"PolicyVerifier", "givenFor", "([JJ)J"⟩ prog_1_method_28_code 6 (some .long)) : Cond) ∈ ALL := al_t 239 (by decide +kernel) (by decide +kernel)
theorem wd240 : ((.methodLink "PolicyVerifier" 142 ⟨"PolicyVerifier", "has", "(JI)Z"⟩) : Cond) ∈ ALL := al_t 240 (by decide +kernel) (by decide +kernel)
theorem wd241 : ((.static ⟨"PolicyVerifier", "has", "(JI)Z"⟩) : Cond) ∈ ALL := al_t 241 (by decide +kernel) (by decide +kernel)
theorem wd242 : ((.code ⟨"PolicyVerifier", "has", "(JI)Z"⟩ prog_1_method_31_code 3 (some .boolean)) : Cond) ∈ ALL := al_t 242 (by decide +kernel) (by decide +kernel)
theorem wd243 : ((.methodLink "PolicyVerifier" 130 ⟨"PolicyVerifier", "closeOverSteps", "([J)V"⟩) : Cond) ∈ ALL := al_t 243 (by decide +kernel) (by decide +kernel)
theorem wd244 : ((.static ⟨"PolicyVerifier", "closeOverSteps", "([J)V"⟩) : Cond) ∈ ALL := al_t 244 (by decide +kernel) (by decide +kernel)
theorem wd245 : ((.code ⟨"PolicyVerifier", "closeOverSteps", "([J)V"⟩ prog_1_method_24_code 3 none) : Cond) ∈ ALL := al_t 245 (by decide +kernel) (by decide +kernel)
theorem wd246 : ((.methodLink "PolicyVerifier" 60 ⟨"PolicyVerifier", "keep", "(LPolicyVerifier$Policy;)I"⟩) : Cond) ∈ ALL := al_t 246 (by decide +kernel) (by decide +kernel)
theorem wd248 : ((.instanceMethod ⟨"PolicyVerifier", "keep", "(LPolicyVerifier$Policy;)I"⟩) : Cond) ∈ ALL := al_t 248 (by decide +kernel) (by decide +kernel)
theorem wd249 : ((.code ⟨"PolicyVerifier", "keep", "(LPolicyVerifier$Policy;)I"⟩ prog_1_method_25_code 3 (some .int)) : Cond) ∈ ALL := al_t 249 (by decide +kernel) (by decide +kernel)
theorem wd250 : ((.methodLink "PolicyVerifier" 146 ⟨"PolicyVerifier", "isNew", "([J)Z"⟩) : Cond) ∈ ALL := al_t 250 (by decide +kernel) (by decide +kernel)
theorem wd252 : ((.instanceMethod ⟨"PolicyVerifier", "isNew", "([J)Z"⟩) : Cond) ∈ ALL := al_t 252 (by decide +kernel) (by decide +kernel)
theorem wd253 : ((.code ⟨"PolicyVerifier", "isNew", "([J)Z"⟩ prog_1_method_26_code 3 (some .boolean)) : Cond) ∈ ALL := al_t 253 (by decide +kernel) (by decide +kernel)
theorem wd254 : ((.methodLink "PolicyVerifier" 80 ⟨"PolicyVerifier", "leastDifference", "([J[J)I"⟩) : Cond) ∈ ALL := al_t 254 (by decide +kernel) (by decide +kernel)
theorem wd255 : ((.static ⟨"PolicyVerifier", "leastDifference", "([J[J)I"⟩) : Cond) ∈ ALL := al_t 255 (by decide +kernel) (by decide +kernel)
theorem wd256 : ((.code ⟨"PolicyVerifier", "leastDifference", "([J[J)I"⟩ prog_1_method_29_code 3 (some .int)) : Cond) ∈ ALL := al_t 256 (by decide +kernel) (by decide +kernel)
theorem wd257 : ((.methodLink "PolicyVerifierLaw" 77 ⟨"PolicyVerifierLaw", "outcome", "(LPolicyVerifier;II[J)I"⟩) : Cond) ∈ ALL := al_t 257 (by decide +kernel) (by decide +kernel)
theorem wd258 : ((.static ⟨"PolicyVerifierLaw", "outcome", "(LPolicyVerifier;II[J)I"⟩) : Cond) ∈ ALL := al_t 258 (by decide +kernel) (by decide +kernel)
theorem wd259 : ((.codeWith ⟨"PolicyVerifierLaw", "outcome", "(LPolicyVerifier;II[J)I"⟩ method_4_code 5 (some .int) [(0, 9, 12, 23), (0, 9, 16, 13)]) : Cond) ∈ ALL := al_t 259 (by decide +kernel) (by decide +kernel)
theorem wd260 : ((.classLink "PolicyVerifierLaw" 23 "java/util/NoSuchElementException") : Cond) ∈ ALL := al_t 260 (by decide +kernel) (by decide +kernel)
theorem wd261 : ((.methodLink "PolicyVerifierLaw" 19 ⟨"PolicyVerifier", "outcome", "(II)J"⟩) : Cond) ∈ ALL := al_t 261 (by decide +kernel) (by decide +kernel)
theorem wd262 : ((.instanceMethod ⟨"PolicyVerifier", "outcome", "(II)J"⟩) : Cond) ∈ ALL := al_t 262 (by decide +kernel) (by decide +kernel)
theorem wd263 : ((.selects "PolicyVerifier" ⟨"PolicyVerifier", "outcome", "(II)J"⟩ ⟨"PolicyVerifier", "outcome", "(II)J"⟩) : Cond) ∈ ALL := al_t 263 (by decide +kernel) (by decide +kernel)
theorem wd264 : ((.code ⟨"PolicyVerifier", "outcome", "(II)J"⟩ prog_1_method_3_code 4 (some .long)) : Cond) ∈ ALL := al_t 264 (by decide +kernel) (by decide +kernel)
theorem wd265 : ((.methodLink "PolicyVerifier" 64 ⟨"PolicyVerifier", "find", "(I)LPolicyVerifier$Policy;"⟩) : Cond) ∈ ALL := al_t 265 (by decide +kernel) (by decide +kernel)
theorem wd267 : ((.instanceMethod ⟨"PolicyVerifier", "find", "(I)LPolicyVerifier$Policy;"⟩) : Cond) ∈ ALL := al_t 267 (by decide +kernel) (by decide +kernel)
theorem wd268 : ((.code ⟨"PolicyVerifier", "find", "(I)LPolicyVerifier$Policy;"⟩ prog_1_method_17_code 2 (some (.object "PolicyVerifier$Policy"))) : Cond) ∈ ALL := al_t 268 (by decide +kernel) (by decide +kernel)
theorem wd269 : ((.classLink "PolicyVerifier" 95 "java/util/NoSuchElementException") : Cond) ∈ ALL := al_t 269 (by decide +kernel) (by decide +kernel)
theorem wd270 : ((.instantiable "java/util/NoSuchElementException" 6) : Cond) ∈ ALL := al_t 270 (by decide +kernel) (by decide +kernel)
theorem wd272 : ((.selects "java/util/NoSuchElementException" ⟨"java/lang/Throwable", "fillInStackTrace", "(I)Ljava/lang/Throwable;"⟩ ⟨"java/lang/Throwable", "fillInStackTrace", "(I)Ljava/lang/Throwable;"⟩) : Cond) ∈ ALL := al_t 272 (by decide +kernel) (by decide +kernel)
theorem wd273 : ((.lays "java/util/NoSuchElementException" "java/lang/Throwable" "cause" "Ljava/lang/Throwable;") : Cond) ∈ ALL := al_t 273 (by decide +kernel) (by decide +kernel)
theorem wd274 : ((.lays "java/util/NoSuchElementException" "java/lang/Throwable" "stackTrace" "[Ljava/lang/StackTraceElement;") : Cond) ∈ ALL := al_t 274 (by decide +kernel) (by decide +kernel)
theorem wd275 : ((.lays "java/util/NoSuchElementException" "java/lang/Throwable" "suppressedExceptions" "Ljava/util/List;") : Cond) ∈ ALL := al_t 275 (by decide +kernel) (by decide +kernel)
theorem wd276 : ((.lays "java/util/NoSuchElementException" "java/lang/Throwable" "detailMessage" "Ljava/lang/String;") : Cond) ∈ ALL := al_t 276 (by decide +kernel) (by decide +kernel)
theorem wd277 : ((.lays "java/util/NoSuchElementException" "java/lang/Throwable" "backtrace" "Ljava/lang/Object;") : Cond) ∈ ALL := al_t 277 (by decide +kernel) (by decide +kernel)
theorem wd278 : ((.methodLink "PolicyVerifier" 97 ⟨"java/util/NoSuchElementException", "<init>", "()V"⟩) : Cond) ∈ ALL := al_t 278 (by decide +kernel) (by decide +kernel)
theorem wd279 : ((.instanceMethod ⟨"java/util/NoSuchElementException", "<init>", "()V"⟩) : Cond) ∈ ALL := al_t 279 (by decide +kernel) (by decide +kernel)
theorem wd280 : ((.code ⟨"java/util/NoSuchElementException", "<init>", "()V"⟩ prog_14_method_1_code 1 none) : Cond) ∈ ALL := al_t 280 (by decide +kernel) (by decide +kernel)
theorem wd281 : ((.methodLink "java/util/NoSuchElementException" 1 ⟨"java/lang/RuntimeException", "<init>", "()V"⟩) : Cond) ∈ ALL := al_t 281 (by decide +kernel) (by decide +kernel)
theorem wd282 : ((.lays "java/util/NoSuchElementException" "java/lang/Throwable" "depth" "I") : Cond) ∈ ALL := al_t 282 (by decide +kernel) (by decide +kernel)
theorem wd284 : ((.methodLink "PolicyVerifier" 68 ⟨"PolicyVerifier", "checkPacket", "(I)V"⟩) : Cond) ∈ ALL := al_t 284 (by decide +kernel) (by decide +kernel)
theorem wd285 : ((.static ⟨"PolicyVerifier", "checkPacket", "(I)V"⟩) : Cond) ∈ ALL := al_t 285 (by decide +kernel) (by decide +kernel)
theorem wd286 : ((.code ⟨"PolicyVerifier", "checkPacket", "(I)V"⟩ prog_1_method_18_code 1 none) : Cond) ∈ ALL := al_t 286 (by decide +kernel) (by decide +kernel)
theorem wd287 : ((.methodLink "PolicyVerifierLaw" 83 ⟨"PolicyVerifierLaw", "image", "(LPolicyVerifier;IJ[J)I"⟩) : Cond) ∈ ALL := al_t 287 (by decide +kernel) (by decide +kernel)
theorem wd288 : ((.static ⟨"PolicyVerifierLaw", "image", "(LPolicyVerifier;IJ[J)I"⟩) : Cond) ∈ ALL := al_t 288 (by decide +kernel) (by decide +kernel)
theorem wd289 : ((.codeWith ⟨"PolicyVerifierLaw", "image", "(LPolicyVerifier;IJ[J)I"⟩ method_5_code 6 (some .int) [(0, 10, 13, 23)]) : Cond) ∈ ALL := al_t 289 (by decide +kernel) (by decide +kernel)
theorem wd290 : ((.methodLink "PolicyVerifierLaw" 25 ⟨"PolicyVerifier", "image", "(IJ)J"⟩) : Cond) ∈ ALL := al_t 290 (by decide +kernel) (by decide +kernel)
theorem wd291 : ((.instanceMethod ⟨"PolicyVerifier", "image", "(IJ)J"⟩) : Cond) ∈ ALL := al_t 291 (by decide +kernel) (by decide +kernel)
theorem wd292 : ((.selects "PolicyVerifier" ⟨"PolicyVerifier", "image", "(IJ)J"⟩ ⟨"PolicyVerifier", "image", "(IJ)J"⟩) : Cond) ∈ ALL := al_t 292 (by decide +kernel) (by decide +kernel)
theorem wd293 : ((.code ⟨"PolicyVerifier", "image", "(IJ)J"⟩ prog_1_method_4_code 4 (some .long)) : Cond) ∈ ALL := al_t 293 (by decide +kernel) (by decide +kernel)
theorem wd294 : ((.methodLink "PolicyVerifierLaw" 87 ⟨"PolicyVerifierLaw", "source", "(LPolicyVerifier;IJ[J)I"⟩) : Cond) ∈ ALL := al_t 294 (by decide +kernel) (by decide +kernel)
theorem wd295 : ((.static ⟨"PolicyVerifierLaw", "source", "(LPolicyVerifier;IJ[J)I"⟩) : Cond) ∈ ALL := al_t 295 (by decide +kernel) (by decide +kernel)
theorem wd296 : ((.codeWith ⟨"PolicyVerifierLaw", "source", "(LPolicyVerifier;IJ[J)I"⟩ method_6_code 6 (some .int) [(0, 10, 13, 23)]) : Cond) ∈ ALL := al_t 296 (by decide +kernel) (by decide +kernel)
theorem wd297 : ((.methodLink "PolicyVerifierLaw" 29 ⟨"PolicyVerifier", "source", "(IJ)J"⟩) : Cond) ∈ ALL := al_t 297 (by decide +kernel) (by decide +kernel)
theorem wd298 : ((.instanceMethod ⟨"PolicyVerifier", "source", "(IJ)J"⟩) : Cond) ∈ ALL := al_t 298 (by decide +kernel) (by decide +kernel)
theorem wd299 : ((.selects "PolicyVerifier" ⟨"PolicyVerifier", "source", "(IJ)J"⟩ ⟨"PolicyVerifier", "source", "(IJ)J"⟩) : Cond) ∈ ALL := al_t 299 (by decide +kernel) (by decide +kernel)
theorem wd300 : ((.code ⟨"PolicyVerifier", "source", "(IJ)J"⟩ prog_1_method_5_code 8 (some .long)) : Cond) ∈ ALL := al_t 300 (by decide +kernel) (by decide +kernel)
theorem wd301 : ((.methodLink "PolicyVerifierLaw" 90 ⟨"PolicyVerifierLaw", "filter", "(LPolicyVerifier;I[J)I"⟩) : Cond) ∈ ALL := al_t 301 (by decide +kernel) (by decide +kernel)
theorem wd302 : ((.static ⟨"PolicyVerifierLaw", "filter", "(LPolicyVerifier;I[J)I"⟩) : Cond) ∈ ALL := al_t 302 (by decide +kernel) (by decide +kernel)
theorem wd303 : ((.codeWith ⟨"PolicyVerifierLaw", "filter", "(LPolicyVerifier;I[J)I"⟩ method_7_code 4 (some .int) [(0, 9, 12, 23)]) : Cond) ∈ ALL := al_t 303 (by decide +kernel) (by decide +kernel)
theorem wd304 : ((.methodLink "PolicyVerifierLaw" 32 ⟨"PolicyVerifier", "filter", "(I)I"⟩) : Cond) ∈ ALL := al_t 304 (by decide +kernel) (by decide +kernel)
theorem wd305 : ((.instanceMethod ⟨"PolicyVerifier", "filter", "(I)I"⟩) : Cond) ∈ ALL := al_t 305 (by decide +kernel) (by decide +kernel)
theorem wd306 : ((.selects "PolicyVerifier" ⟨"PolicyVerifier", "filter", "(I)I"⟩ ⟨"PolicyVerifier", "filter", "(I)I"⟩) : Cond) ∈ ALL := al_t 306 (by decide +kernel) (by decide +kernel)
theorem wd307 : ((.code ⟨"PolicyVerifier", "filter", "(I)I"⟩ prog_1_method_6_code 2 (some .int)) : Cond) ∈ ALL := al_t 307 (by decide +kernel) (by decide +kernel)
theorem wd308 : ((.methodLink "PolicyVerifierLaw" 94 ⟨"PolicyVerifierLaw", "same", "(LPolicyVerifier;II[J)I"⟩) : Cond) ∈ ALL := al_t 308 (by decide +kernel) (by decide +kernel)
theorem wd309 : ((.static ⟨"PolicyVerifierLaw", "same", "(LPolicyVerifier;II[J)I"⟩) : Cond) ∈ ALL := al_t 309 (by decide +kernel) (by decide +kernel)
theorem wd310 : ((.codeWith ⟨"PolicyVerifierLaw", "same", "(LPolicyVerifier;II[J)I"⟩ method_8_code 5 (some .int) [(0, 10, 13, 23)]) : Cond) ∈ ALL := al_t 310 (by decide +kernel) (by decide +kernel)
theorem wd311 : ((.methodLink "PolicyVerifierLaw" 36 ⟨"PolicyVerifier", "same", "(II)I"⟩) : Cond) ∈ ALL := al_t 311 (by decide +kernel) (by decide +kernel)
theorem wd312 : ((.instanceMethod ⟨"PolicyVerifier", "same", "(II)I"⟩) : Cond) ∈ ALL := al_t 312 (by decide +kernel) (by decide +kernel)
theorem wd313 : ((.selects "PolicyVerifier" ⟨"PolicyVerifier", "same", "(II)I"⟩ ⟨"PolicyVerifier", "same", "(II)I"⟩) : Cond) ∈ ALL := al_t 313 (by decide +kernel) (by decide +kernel)
theorem wd314 : ((.code ⟨"PolicyVerifier", "same", "(II)I"⟩ prog_1_method_7_code 3 (some .int)) : Cond) ∈ ALL := al_t 314 (by decide +kernel) (by decide +kernel)
theorem wd315 : ((.methodLink "PolicyVerifierLaw" 97 ⟨"PolicyVerifierLaw", "covers", "(LPolicyVerifier;II[J)I"⟩) : Cond) ∈ ALL := al_t 315 (by decide +kernel) (by decide +kernel)
theorem wd316 : ((.static ⟨"PolicyVerifierLaw", "covers", "(LPolicyVerifier;II[J)I"⟩) : Cond) ∈ ALL := al_t 316 (by decide +kernel) (by decide +kernel)
theorem wd317 : ((.codeWith ⟨"PolicyVerifierLaw", "covers", "(LPolicyVerifier;II[J)I"⟩ method_9_code 5 (some .int) [(0, 10, 13, 23)]) : Cond) ∈ ALL := al_t 317 (by decide +kernel) (by decide +kernel)
theorem wd318 : ((.methodLink "PolicyVerifierLaw" 40 ⟨"PolicyVerifier", "covers", "(II)I"⟩) : Cond) ∈ ALL := al_t 318 (by decide +kernel) (by decide +kernel)
theorem wd319 : ((.instanceMethod ⟨"PolicyVerifier", "covers", "(II)I"⟩) : Cond) ∈ ALL := al_t 319 (by decide +kernel) (by decide +kernel)
theorem wd320 : ((.selects "PolicyVerifier" ⟨"PolicyVerifier", "covers", "(II)I"⟩ ⟨"PolicyVerifier", "covers", "(II)I"⟩) : Cond) ∈ ALL := al_t 320 (by decide +kernel) (by decide +kernel)
theorem wd321 : ((.code ⟨"PolicyVerifier", "covers", "(II)I"⟩ prog_1_method_8_code 6 (some .int)) : Cond) ∈ ALL := al_t 321 (by decide +kernel) (by decide +kernel)
theorem wd322 : ((.constantLong "PolicyVerifier" 84 (-1)) : Cond) ∈ ALL := al_t 322 (by decide +kernel) (by decide +kernel)
theorem wd323 : ((.methodLink "PolicyVerifierLaw" 100 ⟨"PolicyVerifierLaw", "differ", "(LPolicyVerifier;II[J)I"⟩) : Cond) ∈ ALL := al_t 323 (by decide +kernel) (by decide +kernel)
theorem wd324 : ((.static ⟨"PolicyVerifierLaw", "differ", "(LPolicyVerifier;II[J)I"⟩) : Cond) ∈ ALL := al_t 324 (by decide +kernel) (by decide +kernel)
theorem wd325 : ((.codeWith ⟨"PolicyVerifierLaw", "differ", "(LPolicyVerifier;II[J)I"⟩ method_10_code 5 (some .int) [(0, 10, 13, 23), (0, 10, 17, 15)]) : Cond) ∈ ALL := al_t 325 (by decide +kernel) (by decide +kernel)
theorem wd326 : ((.methodLink "PolicyVerifierLaw" 43 ⟨"PolicyVerifier", "differ", "(II)I"⟩) : Cond) ∈ ALL := al_t 326 (by decide +kernel) (by decide +kernel)
theorem wd327 : ((.instanceMethod ⟨"PolicyVerifier", "differ", "(II)I"⟩) : Cond) ∈ ALL := al_t 327 (by decide +kernel) (by decide +kernel)
theorem wd328 : ((.selects "PolicyVerifier" ⟨"PolicyVerifier", "differ", "(II)I"⟩ ⟨"PolicyVerifier", "differ", "(II)I"⟩) : Cond) ∈ ALL := al_t 328 (by decide +kernel) (by decide +kernel)
theorem wd329 : ((.code ⟨"PolicyVerifier", "differ", "(II)I"⟩ prog_1_method_9_code 4 (some .int)) : Cond) ∈ ALL := al_t 329 (by decide +kernel) (by decide +kernel)
theorem wd330 : ((.methodLink "PolicyVerifierLaw" 103 ⟨"PolicyVerifierLaw", "rules", "(LPolicyVerifier;I[J)I"⟩) : Cond) ∈ ALL := al_t 330 (by decide +kernel) (by decide +kernel)
theorem wd331 : ((.static ⟨"PolicyVerifierLaw", "rules", "(LPolicyVerifier;I[J)I"⟩) : Cond) ∈ ALL := al_t 331 (by decide +kernel) (by decide +kernel)
theorem wd332 : ((.codeWith ⟨"PolicyVerifierLaw", "rules", "(LPolicyVerifier;I[J)I"⟩ method_11_code 4 (some .int) [(0, 9, 12, 23)]) : Cond) ∈ ALL := al_t 332 (by decide +kernel) (by decide +kernel)
theorem wd333 : ((.methodLink "PolicyVerifierLaw" 46 ⟨"PolicyVerifier", "rules", "(I)I"⟩) : Cond) ∈ ALL := al_t 333 (by decide +kernel) (by decide +kernel)
theorem wd334 : ((.instanceMethod ⟨"PolicyVerifier", "rules", "(I)I"⟩) : Cond) ∈ ALL := al_t 334 (by decide +kernel) (by decide +kernel)
theorem wd335 : ((.selects "PolicyVerifier" ⟨"PolicyVerifier", "rules", "(I)I"⟩ ⟨"PolicyVerifier", "rules", "(I)I"⟩) : Cond) ∈ ALL := al_t 335 (by decide +kernel) (by decide +kernel)
theorem wd336 : ((.code ⟨"PolicyVerifier", "rules", "(I)I"⟩ prog_1_method_10_code 2 (some .int)) : Cond) ∈ ALL := al_t 336 (by decide +kernel) (by decide +kernel)
theorem wd337 : ((.methodLink "PolicyVerifier" 86 ⟨"PolicyVerifier", "tableOf", "(LPolicyVerifier$Policy;)LPolicyVerifier$Table;"⟩) : Cond) ∈ ALL := al_t 337 (by decide +kernel) (by decide +kernel)
theorem wd339 : ((.instanceMethod ⟨"PolicyVerifier", "tableOf", "(LPolicyVerifier$Policy;)LPolicyVerifier$Table;"⟩) : Cond) ∈ ALL := al_t 339 (by decide +kernel) (by decide +kernel)
theorem wd340 : ((.code ⟨"PolicyVerifier", "tableOf", "(LPolicyVerifier$Policy;)LPolicyVerifier$Table;"⟩ prog_1_method_27_code 3 (some (.object "PolicyVerifier$Table"))) : Cond) ∈ ALL := al_t 340 (by decide +kernel) (by decide +kernel)
theorem wd341 : ((.methodLink "PolicyVerifier" 154 ⟨"PolicyVerifier$Responses", "read", "([J)V"⟩) : Cond) ∈ ALL := al_t 341 (by decide +kernel) (by decide +kernel)
theorem wd342 : ((.instanceMethod ⟨"PolicyVerifier$Responses", "read", "([J)V"⟩) : Cond) ∈ ALL := al_t 342 (by decide +kernel) (by decide +kernel)
theorem wd343 : ((.selects "PolicyVerifier$Responses" ⟨"PolicyVerifier$Responses", "read", "([J)V"⟩ ⟨"PolicyVerifier$Responses", "read", "([J)V"⟩) : Cond) ∈ ALL := al_t 343 (by decide +kernel) (by decide +kernel)
theorem wd344 : ((.code ⟨"PolicyVerifier$Responses", "read", "([J)V"⟩ prog_3_method_2_code 3 none) : Cond) ∈ ALL := al_t 344 (by decide +kernel) (by decide +kernel)
theorem wd345 : ((.methodLink "PolicyVerifier$Responses" 18 ⟨"PolicyVerifier$Responses", "readPacket", "(IJ)V"⟩) : Cond) ∈ ALL := al_t 345 (by decide +kernel) (by decide +kernel)
theorem wd347 : ((.instanceMethod ⟨"PolicyVerifier$Responses", "readPacket", "(IJ)V"⟩) : Cond) ∈ ALL := al_t 347 (by decide +kernel) (by decide +kernel)
theorem wd348 : ((.code ⟨"PolicyVerifier$Responses", "readPacket", "(IJ)V"⟩ prog_3_method_3_code 10 none) : Cond) ∈ ALL := al_t 348 (by decide +kernel) (by decide +kernel)
theorem wd350 : ((.methodLink "PolicyVerifier$Responses" 26 ⟨"PolicyVerifier$Responses", "actionFrom", "(II)I"⟩) : Cond) ∈ ALL := al_t 350 (by decide +kernel) (by decide +kernel)
theorem wd351 : ((.static ⟨"PolicyVerifier$Responses", "actionFrom", "(II)I"⟩) : Cond) ∈ ALL := al_t 351 (by decide +kernel) (by decide +kernel)
theorem wd352 : ((.code ⟨"PolicyVerifier$Responses", "actionFrom", "(II)I"⟩ prog_3_method_4_code 5 (some .int)) : Cond) ∈ ALL := al_t 352 (by decide +kernel) (by decide +kernel)
theorem wd354 : ((.classLink "PolicyVerifier" 91 "PolicyVerifier$Table") : Cond) ∈ ALL := al_t 354 (by decide +kernel) (by decide +kernel)
theorem wd355 : ((.instantiable "PolicyVerifier$Table" 4) : Cond) ∈ ALL := al_t 355 (by decide +kernel) (by decide +kernel)
theorem wd356 : ((.methodLink "PolicyVerifier" 157 ⟨"PolicyVerifier$Table", "<init>", "()V"⟩) : Cond) ∈ ALL := al_t 356 (by decide +kernel) (by decide +kernel)
theorem wd357 : ((.instanceMethod ⟨"PolicyVerifier$Table", "<init>", "()V"⟩) : Cond) ∈ ALL := al_t 357 (by decide +kernel) (by decide +kernel)
theorem wd358 : ((.code ⟨"PolicyVerifier$Table", "<init>", "()V"⟩ prog_4_method_1_code 1 none) : Cond) ∈ ALL := al_t 358 (by decide +kernel) (by decide +kernel)
theorem wd359 : ((.methodLink "PolicyVerifier$Table" 3 ⟨"java/lang/Object", "<init>", "()V"⟩) : Cond) ∈ ALL := al_t 359 (by decide +kernel) (by decide +kernel)
theorem wd360 : ((.fieldLink "PolicyVerifier$Table" 9 "PolicyVerifier$Table" "firstPacket" "[I") : Cond) ∈ ALL := al_t 360 (by decide +kernel) (by decide +kernel)
theorem wd361 : ((.fieldLink "PolicyVerifier" 98 "PolicyVerifier$Table" "firstPacket" "[I") : Cond) ∈ ALL := al_t 361 (by decide +kernel) (by decide +kernel)
theorem wd362 : ((.fieldLink "PolicyVerifier$Table" 15 "PolicyVerifier$Table" "fixedFields" "[I") : Cond) ∈ ALL := al_t 362 (by decide +kernel) (by decide +kernel)
theorem wd363 : ((.fieldLink "PolicyVerifier" 108 "PolicyVerifier$Table" "fixedFields" "[I") : Cond) ∈ ALL := al_t 363 (by decide +kernel) (by decide +kernel)
theorem wd364 : ((.fieldLink "PolicyVerifier$Table" 18 "PolicyVerifier$Table" "placeOfPacket" "[I") : Cond) ∈ ALL := al_t 364 (by decide +kernel) (by decide +kernel)
theorem wd365 : ((.fieldLink "PolicyVerifier" 115 "PolicyVerifier$Table" "placeOfPacket" "[I") : Cond) ∈ ALL := al_t 365 (by decide +kernel) (by decide +kernel)
theorem wd366 : ((.fieldLink "PolicyVerifier$Table" 21 "PolicyVerifier$Table" "size" "I") : Cond) ∈ ALL := al_t 366 (by decide +kernel) (by decide +kernel)
theorem wd367 : ((.fieldLink "PolicyVerifier" 90 "PolicyVerifier$Table" "size" "I") : Cond) ∈ ALL := al_t 367 (by decide +kernel) (by decide +kernel)
theorem wd368 : ((.laysFinal "PolicyVerifier$Table" "PolicyVerifier$Table" "firstPacket" "[I") : Cond) ∈ ALL := al_t 368 (by decide +kernel) (by decide +kernel)
theorem wd370 : ((.laysFinal "PolicyVerifier$Table" "PolicyVerifier$Table" "fixedFields" "[I") : Cond) ∈ ALL := al_t 370 (by decide +kernel) (by decide +kernel)
theorem wd372 : ((.laysFinal "PolicyVerifier$Table" "PolicyVerifier$Table" "placeOfPacket" "[I") : Cond) ∈ ALL := al_t 372 (by decide +kernel) (by decide +kernel)
theorem wd374 : ((.lays "PolicyVerifier$Table" "PolicyVerifier$Table" "size" "I") : Cond) ∈ ALL := al_t 374 (by decide +kernel) (by decide +kernel)
theorem wd377 : ((.arrayClass .int) : Cond) ∈ ALL := al_t 377 (by decide +kernel) (by decide +kernel)
theorem wd378 : ((.methodLink "PolicyVerifier" 158 ⟨"PolicyVerifier$Table", "fill", "(LPolicyVerifier$Responses;)V"⟩) : Cond) ∈ ALL := al_t 378 (by decide +kernel) (by decide +kernel)
theorem wd379 : ((.instanceMethod ⟨"PolicyVerifier$Table", "fill", "(LPolicyVerifier$Responses;)V"⟩) : Cond) ∈ ALL := al_t 379 (by decide +kernel) (by decide +kernel)
theorem wd380 : ((.selects "PolicyVerifier$Table" ⟨"PolicyVerifier$Table", "fill", "(LPolicyVerifier$Responses;)V"⟩ ⟨"PolicyVerifier$Table", "fill", "(LPolicyVerifier$Responses;)V"⟩) : Cond) ∈ ALL := al_t 380 (by decide +kernel) (by decide +kernel)
theorem wd381 : ((.code ⟨"PolicyVerifier$Table", "fill", "(LPolicyVerifier$Responses;)V"⟩ prog_4_method_2_code 2 none) : Cond) ∈ ALL := al_t 381 (by decide +kernel) (by decide +kernel)
theorem wd382 : ((.methodLink "PolicyVerifier$Table" 25 ⟨"PolicyVerifier$Table", "addRegion", "(LPolicyVerifier$Responses;II)V"⟩) : Cond) ∈ ALL := al_t 382 (by decide +kernel) (by decide +kernel)
theorem wd384 : ((.instanceMethod ⟨"PolicyVerifier$Table", "addRegion", "(LPolicyVerifier$Responses;II)V"⟩) : Cond) ∈ ALL := al_t 384 (by decide +kernel) (by decide +kernel)
theorem wd385 : ((.code ⟨"PolicyVerifier$Table", "addRegion", "(LPolicyVerifier$Responses;II)V"⟩ prog_4_method_3_code 6 none) : Cond) ∈ ALL := al_t 385 (by decide +kernel) (by decide +kernel)
theorem wd386 : ((.methodLink "PolicyVerifier$Table" 29 ⟨"PolicyVerifier$Responses", "areAlike", "(II)Z"⟩) : Cond) ∈ ALL := al_t 386 (by decide +kernel) (by decide +kernel)
theorem wd387 : ((.instanceMethod ⟨"PolicyVerifier$Responses", "areAlike", "(II)Z"⟩) : Cond) ∈ ALL := al_t 387 (by decide +kernel) (by decide +kernel)
theorem wd388 : ((.selects "PolicyVerifier$Responses" ⟨"PolicyVerifier$Responses", "areAlike", "(II)Z"⟩ ⟨"PolicyVerifier$Responses", "areAlike", "(II)Z"⟩) : Cond) ∈ ALL := al_t 388 (by decide +kernel) (by decide +kernel)
theorem wd389 : ((.code ⟨"PolicyVerifier$Responses", "areAlike", "(II)Z"⟩ prog_3_method_5_code 4 (some .boolean)) : Cond) ∈ ALL := al_t 389 (by decide +kernel) (by decide +kernel)
theorem wd390 : ((.methodLink "PolicyVerifier$Table" 35 ⟨"PolicyVerifier$Table", "addRule", "(III)V"⟩) : Cond) ∈ ALL := al_t 390 (by decide +kernel) (by decide +kernel)
theorem wd392 : ((.instanceMethod ⟨"PolicyVerifier$Table", "addRule", "(III)V"⟩) : Cond) ∈ ALL := al_t 392 (by decide +kernel) (by decide +kernel)
theorem wd393 : ((.code ⟨"PolicyVerifier$Table", "addRule", "(III)V"⟩ prog_4_method_4_code 5 none) : Cond) ∈ ALL := al_t 393 (by decide +kernel) (by decide +kernel)
theorem wd395 : ((.methodLink "PolicyVerifierLaw" 106 ⟨"PolicyVerifierLaw", "rule", "(LPolicyVerifier;III[J)I"⟩) : Cond) ∈ ALL := al_t 395 (by decide +kernel) (by decide +kernel)
theorem wd396 : ((.static ⟨"PolicyVerifierLaw", "rule", "(LPolicyVerifier;III[J)I"⟩) : Cond) ∈ ALL := al_t 396 (by decide +kernel) (by decide +kernel)
theorem wd397 : ((.codeWith ⟨"PolicyVerifierLaw", "rule", "(LPolicyVerifier;III[J)I"⟩ method_12_code 6 (some .int) [(0, 12, 15, 23), (0, 12, 19, 13)]) : Cond) ∈ ALL := al_t 397 (by decide +kernel) (by decide +kernel)
theorem wd398 : ((.methodLink "PolicyVerifierLaw" 49 ⟨"PolicyVerifier", "rule", "(III)I"⟩) : Cond) ∈ ALL := al_t 398 (by decide +kernel) (by decide +kernel)
theorem wd399 : ((.instanceMethod ⟨"PolicyVerifier", "rule", "(III)I"⟩) : Cond) ∈ ALL := al_t 399 (by decide +kernel) (by decide +kernel)
theorem wd400 : ((.selects "PolicyVerifier" ⟨"PolicyVerifier", "rule", "(III)I"⟩ ⟨"PolicyVerifier", "rule", "(III)I"⟩) : Cond) ∈ ALL := al_t 400 (by decide +kernel) (by decide +kernel)
theorem wd401 : ((.code ⟨"PolicyVerifier", "rule", "(III)I"⟩ prog_1_method_11_code 6 (some .int)) : Cond) ∈ ALL := al_t 401 (by decide +kernel) (by decide +kernel)
theorem wd402 : ((.methodLink "PolicyVerifier" 102 ⟨"java/lang/Long", "bitCount", "(J)I"⟩) : Cond) ∈ ALL := al_t 402 (by decide +kernel) (by decide +kernel)
theorem wd403 : ((.static ⟨"java/lang/Long", "bitCount", "(J)I"⟩) : Cond) ∈ ALL := al_t 403 (by decide +kernel) (by decide +kernel)
theorem wd404 : ((.code ⟨"java/lang/Long", "bitCount", "(J)I"⟩ prog_10_method_50_code 2 (some .int)) : Cond) ∈ ALL := al_t 404 (by decide +kernel) (by decide +kernel)
theorem wd405 : ((.constantLong "java/lang/Long" 314 6148914691236517205) : Cond) ∈ ALL := al_t 405 (by decide +kernel) (by decide +kernel)
theorem wd406 : ((.constantLong "java/lang/Long" 316 3689348814741910323) : Cond) ∈ ALL := al_t 406 (by decide +kernel) (by decide +kernel)
theorem wd407 : ((.constantLong "java/lang/Long" 318 1085102592571150095) : Cond) ∈ ALL := al_t 407 (by decide +kernel) (by decide +kernel)
theorem wd408 : ((.methodLink "PolicyVerifierLaw" 110 ⟨"PolicyVerifierLaw", "match", "(LPolicyVerifier;II[J)I"⟩) : Cond) ∈ ALL := al_t 408 (by decide +kernel) (by decide +kernel)
theorem wd409 : ((.static ⟨"PolicyVerifierLaw", "match", "(LPolicyVerifier;II[J)I"⟩) : Cond) ∈ ALL := al_t 409 (by decide +kernel) (by decide +kernel)
theorem wd410 : ((.codeWith ⟨"PolicyVerifierLaw", "match", "(LPolicyVerifier;II[J)I"⟩ method_13_code 5 (some .int) [(0, 10, 13, 23), (0, 10, 17, 13)]) : Cond) ∈ ALL := al_t 410 (by decide +kernel) (by decide +kernel)
theorem wd411 : ((.methodLink "PolicyVerifierLaw" 53 ⟨"PolicyVerifier", "match", "(II)I"⟩) : Cond) ∈ ALL := al_t 411 (by decide +kernel) (by decide +kernel)
theorem wd412 : ((.instanceMethod ⟨"PolicyVerifier", "match", "(II)I"⟩) : Cond) ∈ ALL := al_t 412 (by decide +kernel) (by decide +kernel)
theorem wd413 : ((.selects "PolicyVerifier" ⟨"PolicyVerifier", "match", "(II)I"⟩ ⟨"PolicyVerifier", "match", "(II)I"⟩) : Cond) ∈ ALL := al_t 413 (by decide +kernel) (by decide +kernel)
theorem wd414 : ((.code ⟨"PolicyVerifier", "match", "(II)I"⟩ prog_1_method_12_code 4 (some .int)) : Cond) ∈ ALL := al_t 414 (by decide +kernel) (by decide +kernel)
theorem wd415 : ((.methodLink "PolicyVerifierLaw" 113 ⟨"PolicyVerifierLaw", "hops", "(LPolicyVerifier;IIJ[J)I"⟩) : Cond) ∈ ALL := al_t 415 (by decide +kernel) (by decide +kernel)
theorem wd416 : ((.static ⟨"PolicyVerifierLaw", "hops", "(LPolicyVerifier;IIJ[J)I"⟩) : Cond) ∈ ALL := al_t 416 (by decide +kernel) (by decide +kernel)
theorem wd417 : ((.codeWith ⟨"PolicyVerifierLaw", "hops", "(LPolicyVerifier;IIJ[J)I"⟩ method_14_code 7 (some .int) [(0, 12, 15, 23), (0, 12, 19, 13)]) : Cond) ∈ ALL := al_t 417 (by decide +kernel) (by decide +kernel)
theorem wd418 : ((.methodLink "PolicyVerifierLaw" 56 ⟨"PolicyVerifier", "hops", "(IIJ)I"⟩) : Cond) ∈ ALL := al_t 418 (by decide +kernel) (by decide +kernel)
theorem wd419 : ((.instanceMethod ⟨"PolicyVerifier", "hops", "(IIJ)I"⟩) : Cond) ∈ ALL := al_t 419 (by decide +kernel) (by decide +kernel)
theorem wd420 : ((.selects "PolicyVerifier" ⟨"PolicyVerifier", "hops", "(IIJ)I"⟩ ⟨"PolicyVerifier", "hops", "(IIJ)I"⟩) : Cond) ∈ ALL := al_t 420 (by decide +kernel) (by decide +kernel)
theorem wd421 : ((.code ⟨"PolicyVerifier", "hops", "(IIJ)I"⟩ prog_1_method_13_code 11 (some .int)) : Cond) ∈ ALL := al_t 421 (by decide +kernel) (by decide +kernel)
theorem wd422 : ((.methodLink "PolicyVerifierLaw" 117 ⟨"PolicyVerifierLaw", "count", "(LPolicyVerifier;I[J)I"⟩) : Cond) ∈ ALL := al_t 422 (by decide +kernel) (by decide +kernel)
theorem wd423 : ((.static ⟨"PolicyVerifierLaw", "count", "(LPolicyVerifier;I[J)I"⟩) : Cond) ∈ ALL := al_t 423 (by decide +kernel) (by decide +kernel)
theorem wd424 : ((.codeWith ⟨"PolicyVerifierLaw", "count", "(LPolicyVerifier;I[J)I"⟩ method_15_code 4 (some .int) [(0, 9, 12, 13)]) : Cond) ∈ ALL := al_t 424 (by decide +kernel) (by decide +kernel)
theorem wd425 : ((.methodLink "PolicyVerifierLaw" 60 ⟨"PolicyVerifier", "count", "(I)I"⟩) : Cond) ∈ ALL := al_t 425 (by decide +kernel) (by decide +kernel)
theorem wd426 : ((.instanceMethod ⟨"PolicyVerifier", "count", "(I)I"⟩) : Cond) ∈ ALL := al_t 426 (by decide +kernel) (by decide +kernel)
theorem wd427 : ((.selects "PolicyVerifier" ⟨"PolicyVerifier", "count", "(I)I"⟩ ⟨"PolicyVerifier", "count", "(I)I"⟩) : Cond) ∈ ALL := al_t 427 (by decide +kernel) (by decide +kernel)
theorem wd428 : ((.code ⟨"PolicyVerifier", "count", "(I)I"⟩ prog_1_method_14_code 2 (some .int)) : Cond) ∈ ALL := al_t 428 (by decide +kernel) (by decide +kernel)
theorem wd429 : ((.classLink "PolicyVerifierLaw" 64 "PolicyVerifierModel") : Cond) ∈ ALL := al_t 429 (by decide +kernel) (by decide +kernel)
theorem wd430 : ((.instantiable "PolicyVerifierModel" 8) : Cond) ∈ ALL := al_t 430 (by decide +kernel) (by decide +kernel)
theorem wd431 : ((.methodLink "PolicyVerifierLaw" 66 ⟨"PolicyVerifierModel", "<init>", "()V"⟩) : Cond) ∈ ALL := al_t 431 (by decide +kernel) (by decide +kernel)
theorem wd432 : ((.instanceMethod ⟨"PolicyVerifierModel", "<init>", "()V"⟩) : Cond) ∈ ALL := al_t 432 (by decide +kernel) (by decide +kernel)
theorem wd433 : ((.code ⟨"PolicyVerifierModel", "<init>", "()V"⟩ prog_6_method_1_code 1 none) : Cond) ∈ ALL := al_t 433 (by decide +kernel) (by decide +kernel)
theorem wd434 : ((.methodLink "PolicyVerifierModel" 1 ⟨"java/lang/Object", "<init>", "()V"⟩) : Cond) ∈ ALL := al_t 434 (by decide +kernel) (by decide +kernel)
theorem wd435 : ((.fieldLink "PolicyVerifierModel" 24 "PolicyVerifierModel" "thrown" "I") : Cond) ∈ ALL := al_t 435 (by decide +kernel) (by decide +kernel)
theorem wd436 : ((.fieldLink "PolicyVerifierModel" 7 "PolicyVerifierModel" "outcomes" "[J") : Cond) ∈ ALL := al_t 436 (by decide +kernel) (by decide +kernel)
theorem wd437 : ((.fieldLink "PolicyVerifierModel" 13 "PolicyVerifierModel" "filters" "[Z") : Cond) ∈ ALL := al_t 437 (by decide +kernel) (by decide +kernel)
theorem wd438 : ((.fieldLink "PolicyVerifierModel" 28 "PolicyVerifierModel" "policies" "I") : Cond) ∈ ALL := al_t 438 (by decide +kernel) (by decide +kernel)
theorem wd439 : ((.fieldLink "PolicyVerifierModel" 75 "PolicyVerifierModel" "low" "J") : Cond) ∈ ALL := al_t 439 (by decide +kernel) (by decide +kernel)
theorem wd440 : ((.fieldLink "PolicyVerifierModel" 79 "PolicyVerifierModel" "high" "J") : Cond) ∈ ALL := al_t 440 (by decide +kernel) (by decide +kernel)
theorem wd441 : ((.fieldLink "PolicyVerifierModel" 17 "PolicyVerifierModel" "start" "[I") : Cond) ∈ ALL := al_t 441 (by decide +kernel) (by decide +kernel)
theorem wd442 : ((.fieldLink "PolicyVerifierModel" 21 "PolicyVerifierModel" "extent" "[I") : Cond) ∈ ALL := al_t 442 (by decide +kernel) (by decide +kernel)
theorem wd443 : ((.lays "PolicyVerifierModel" "PolicyVerifierModel" "thrown" "I") : Cond) ∈ ALL := al_t 443 (by decide +kernel) (by decide +kernel)
theorem wd445 : ((.laysFinal "PolicyVerifierModel" "PolicyVerifierModel" "outcomes" "[J") : Cond) ∈ ALL := al_t 445 (by decide +kernel) (by decide +kernel)
theorem wd447 : ((.laysFinal "PolicyVerifierModel" "PolicyVerifierModel" "filters" "[Z") : Cond) ∈ ALL := al_t 447 (by decide +kernel) (by decide +kernel)
theorem wd449 : ((.lays "PolicyVerifierModel" "PolicyVerifierModel" "policies" "I") : Cond) ∈ ALL := al_t 449 (by decide +kernel) (by decide +kernel)
theorem wd451 : ((.lays "PolicyVerifierModel" "PolicyVerifierModel" "low" "J") : Cond) ∈ ALL := al_t 451 (by decide +kernel) (by decide +kernel)
theorem wd453 : ((.lays "PolicyVerifierModel" "PolicyVerifierModel" "high" "J") : Cond) ∈ ALL := al_t 453 (by decide +kernel) (by decide +kernel)
theorem wd455 : ((.laysFinal "PolicyVerifierModel" "PolicyVerifierModel" "start" "[I") : Cond) ∈ ALL := al_t 455 (by decide +kernel) (by decide +kernel)
theorem wd457 : ((.laysFinal "PolicyVerifierModel" "PolicyVerifierModel" "extent" "[I") : Cond) ∈ ALL := al_t 457 (by decide +kernel) (by decide +kernel)
theorem wd460 : ((.arrayClass .boolean) : Cond) ∈ ALL := al_t 460 (by decide +kernel) (by decide +kernel)
theorem wd461 : ((.methodLink "PolicyVerifierLaw" 73 ⟨"PolicyVerifierModel", "thrown", "()I"⟩) : Cond) ∈ ALL := al_t 461 (by decide +kernel) (by decide +kernel)
theorem wd462 : ((.instanceMethod ⟨"PolicyVerifierModel", "thrown", "()I"⟩) : Cond) ∈ ALL := al_t 462 (by decide +kernel) (by decide +kernel)
theorem wd463 : ((.selects "PolicyVerifierModel" ⟨"PolicyVerifierModel", "thrown", "()I"⟩ ⟨"PolicyVerifierModel", "thrown", "()I"⟩) : Cond) ∈ ALL := al_t 463 (by decide +kernel) (by decide +kernel)
theorem wd464 : ((.code ⟨"PolicyVerifierModel", "thrown", "()I"⟩ prog_6_method_2_code 1 (some .int)) : Cond) ∈ ALL := al_t 464 (by decide +kernel) (by decide +kernel)
theorem wd465 : ((.methodLink "PolicyVerifierLaw" 72 ⟨"PolicyVerifierModel", "policy", "(IIII)I"⟩) : Cond) ∈ ALL := al_t 465 (by decide +kernel) (by decide +kernel)
theorem wd466 : ((.instanceMethod ⟨"PolicyVerifierModel", "policy", "(IIII)I"⟩) : Cond) ∈ ALL := al_t 466 (by decide +kernel) (by decide +kernel)
theorem wd467 : ((.selects "PolicyVerifierModel" ⟨"PolicyVerifierModel", "policy", "(IIII)I"⟩ ⟨"PolicyVerifierModel", "policy", "(IIII)I"⟩) : Cond) ∈ ALL := al_t 467 (by decide +kernel) (by decide +kernel)
theorem wd468 : ((.code ⟨"PolicyVerifierModel", "policy", "(IIII)I"⟩ prog_6_method_13_code 6 (some .int)) : Cond) ∈ ALL := al_t 468 (by decide +kernel) (by decide +kernel)
theorem wd469 : ((.methodLink "PolicyVerifierModel" 55 ⟨"PolicyVerifierModel", "can", "(IIII)Z"⟩) : Cond) ∈ ALL := al_t 469 (by decide +kernel) (by decide +kernel)
theorem wd471 : ((.instanceMethod ⟨"PolicyVerifierModel", "can", "(IIII)Z"⟩) : Cond) ∈ ALL := al_t 471 (by decide +kernel) (by decide +kernel)
theorem wd472 : ((.code ⟨"PolicyVerifierModel", "can", "(IIII)Z"⟩ prog_6_method_12_code 5 (some .boolean)) : Cond) ∈ ALL := al_t 472 (by decide +kernel) (by decide +kernel)
theorem wd473 : ((.methodLink "PolicyVerifierModel" 31 ⟨"PolicyVerifierModel", "in", "(III)Z"⟩) : Cond) ∈ ALL := al_t 473 (by decide +kernel) (by decide +kernel)
theorem wd474 : ((.static ⟨"PolicyVerifierModel", "in", "(III)Z"⟩) : Cond) ∈ ALL := al_t 474 (by decide +kernel) (by decide +kernel)
theorem wd475 : ((.code ⟨"PolicyVerifierModel", "in", "(III)Z"⟩ prog_6_method_4_code 3 (some .boolean)) : Cond) ∈ ALL := al_t 475 (by decide +kernel) (by decide +kernel)
theorem wd476 : ((.methodLink "PolicyVerifierModel" 51 ⟨"PolicyVerifierModel", "made", "(I)Z"⟩) : Cond) ∈ ALL := al_t 476 (by decide +kernel) (by decide +kernel)
theorem wd478 : ((.instanceMethod ⟨"PolicyVerifierModel", "made", "(I)Z"⟩) : Cond) ∈ ALL := al_t 478 (by decide +kernel) (by decide +kernel)
theorem wd479 : ((.code ⟨"PolicyVerifierModel", "made", "(I)Z"⟩ prog_6_method_5_code 2 (some .boolean)) : Cond) ∈ ALL := al_t 479 (by decide +kernel) (by decide +kernel)
theorem wd480 : ((.methodLink "PolicyVerifierModel" 59 ⟨"PolicyVerifierModel", "raise", "(I)I"⟩) : Cond) ∈ ALL := al_t 480 (by decide +kernel) (by decide +kernel)
theorem wd482 : ((.instanceMethod ⟨"PolicyVerifierModel", "raise", "(I)I"⟩) : Cond) ∈ ALL := al_t 482 (by decide +kernel) (by decide +kernel)
theorem wd483 : ((.code ⟨"PolicyVerifierModel", "raise", "(I)I"⟩ prog_6_method_3_code 2 (some .int)) : Cond) ∈ ALL := al_t 483 (by decide +kernel) (by decide +kernel)
theorem wd484 : ((.methodLink "PolicyVerifierModel" 63 ⟨"PolicyVerifierModel", "worked", "(IIIII)J"⟩) : Cond) ∈ ALL := al_t 484 (by decide +kernel) (by decide +kernel)
theorem wd486 : ((.instanceMethod ⟨"PolicyVerifierModel", "worked", "(IIIII)J"⟩) : Cond) ∈ ALL := al_t 486 (by decide +kernel) (by decide +kernel)
theorem wd487 : ((.code ⟨"PolicyVerifierModel", "worked", "(IIIII)J"⟩ prog_6_method_10_code 8 (some .long)) : Cond) ∈ ALL := al_t 487 (by decide +kernel) (by decide +kernel)
theorem wd488 : ((.methodLink "PolicyVerifierModel" 35 ⟨"PolicyVerifierModel", "value", "(II)I"⟩) : Cond) ∈ ALL := al_t 488 (by decide +kernel) (by decide +kernel)
theorem wd489 : ((.static ⟨"PolicyVerifierModel", "value", "(II)I"⟩) : Cond) ∈ ALL := al_t 489 (by decide +kernel) (by decide +kernel)
theorem wd490 : ((.code ⟨"PolicyVerifierModel", "value", "(II)I"⟩ prog_6_method_6_code 2 (some .int)) : Cond) ∈ ALL := al_t 490 (by decide +kernel) (by decide +kernel)
theorem wd491 : ((.methodLink "PolicyVerifierModel" 43 ⟨"PolicyVerifierModel", "with", "(III)I"⟩) : Cond) ∈ ALL := al_t 491 (by decide +kernel) (by decide +kernel)
theorem wd492 : ((.static ⟨"PolicyVerifierModel", "with", "(III)I"⟩) : Cond) ∈ ALL := al_t 492 (by decide +kernel) (by decide +kernel)
theorem wd493 : ((.code ⟨"PolicyVerifierModel", "with", "(III)I"⟩ prog_6_method_7_code 3 (some .int)) : Cond) ∈ ALL := al_t 493 (by decide +kernel) (by decide +kernel)
theorem wd494 : ((.methodLink "PolicyVerifierModel" 39 ⟨"PolicyVerifierModel", "all", "(IJ)J"⟩) : Cond) ∈ ALL := al_t 494 (by decide +kernel) (by decide +kernel)
theorem wd496 : ((.instanceMethod ⟨"PolicyVerifierModel", "all", "(IJ)J"⟩) : Cond) ∈ ALL := al_t 496 (by decide +kernel) (by decide +kernel)
theorem wd497 : ((.code ⟨"PolicyVerifierModel", "all", "(IJ)J"⟩ prog_6_method_8_code 7 (some .long)) : Cond) ∈ ALL := al_t 497 (by decide +kernel) (by decide +kernel)
theorem wd498 : ((.methodLink "PolicyVerifierModel" 47 ⟨"PolicyVerifierModel", "star", "(II)J"⟩) : Cond) ∈ ALL := al_t 498 (by decide +kernel) (by decide +kernel)
theorem wd500 : ((.instanceMethod ⟨"PolicyVerifierModel", "star", "(II)J"⟩) : Cond) ∈ ALL := al_t 500 (by decide +kernel) (by decide +kernel)
theorem wd501 : ((.code ⟨"PolicyVerifierModel", "star", "(II)J"⟩ prog_6_method_9_code 6 (some .long)) : Cond) ∈ ALL := al_t 501 (by decide +kernel) (by decide +kernel)
theorem wd502 : ((.methodLink "PolicyVerifierModel" 67 ⟨"PolicyVerifierModel", "passes", "(IIII)Z"⟩) : Cond) ∈ ALL := al_t 502 (by decide +kernel) (by decide +kernel)
theorem wd504 : ((.instanceMethod ⟨"PolicyVerifierModel", "passes", "(IIII)Z"⟩) : Cond) ∈ ALL := al_t 504 (by decide +kernel) (by decide +kernel)
theorem wd505 : ((.code ⟨"PolicyVerifierModel", "passes", "(IIII)Z"⟩ prog_6_method_11_code 5 (some .boolean)) : Cond) ∈ ALL := al_t 505 (by decide +kernel) (by decide +kernel)
theorem wd506 : ((.methodLink "PolicyVerifierLaw" 80 ⟨"PolicyVerifierModel", "outcome", "(II)J"⟩) : Cond) ∈ ALL := al_t 506 (by decide +kernel) (by decide +kernel)
theorem wd507 : ((.instanceMethod ⟨"PolicyVerifierModel", "outcome", "(II)J"⟩) : Cond) ∈ ALL := al_t 507 (by decide +kernel) (by decide +kernel)
theorem wd508 : ((.selects "PolicyVerifierModel" ⟨"PolicyVerifierModel", "outcome", "(II)J"⟩ ⟨"PolicyVerifierModel", "outcome", "(II)J"⟩) : Cond) ∈ ALL := al_t 508 (by decide +kernel) (by decide +kernel)
theorem wd509 : ((.code ⟨"PolicyVerifierModel", "outcome", "(II)J"⟩ prog_6_method_14_code 3 (some .long)) : Cond) ∈ ALL := al_t 509 (by decide +kernel) (by decide +kernel)
theorem wd510 : ((.methodLink "PolicyVerifierLaw" 86 ⟨"PolicyVerifierModel", "image", "(IJ)J"⟩) : Cond) ∈ ALL := al_t 510 (by decide +kernel) (by decide +kernel)
theorem wd511 : ((.instanceMethod ⟨"PolicyVerifierModel", "image", "(IJ)J"⟩) : Cond) ∈ ALL := al_t 511 (by decide +kernel) (by decide +kernel)
theorem wd512 : ((.selects "PolicyVerifierModel" ⟨"PolicyVerifierModel", "image", "(IJ)J"⟩ ⟨"PolicyVerifierModel", "image", "(IJ)J"⟩) : Cond) ∈ ALL := al_t 512 (by decide +kernel) (by decide +kernel)
theorem wd513 : ((.code ⟨"PolicyVerifierModel", "image", "(IJ)J"⟩ prog_6_method_15_code 4 (some .long)) : Cond) ∈ ALL := al_t 513 (by decide +kernel) (by decide +kernel)
theorem wd514 : ((.methodLink "PolicyVerifierLaw" 89 ⟨"PolicyVerifierModel", "source", "(IJ)J"⟩) : Cond) ∈ ALL := al_t 514 (by decide +kernel) (by decide +kernel)
theorem wd515 : ((.instanceMethod ⟨"PolicyVerifierModel", "source", "(IJ)J"⟩) : Cond) ∈ ALL := al_t 515 (by decide +kernel) (by decide +kernel)
theorem wd516 : ((.selects "PolicyVerifierModel" ⟨"PolicyVerifierModel", "source", "(IJ)J"⟩ ⟨"PolicyVerifierModel", "source", "(IJ)J"⟩) : Cond) ∈ ALL := al_t 516 (by decide +kernel) (by decide +kernel)
theorem wd517 : ((.code ⟨"PolicyVerifierModel", "source", "(IJ)J"⟩ prog_6_method_16_code 7 (some .long)) : Cond) ∈ ALL := al_t 517 (by decide +kernel) (by decide +kernel)
theorem wd518 : ((.methodLink "PolicyVerifierLaw" 93 ⟨"PolicyVerifierModel", "filter", "(I)I"⟩) : Cond) ∈ ALL := al_t 518 (by decide +kernel) (by decide +kernel)
theorem wd519 : ((.instanceMethod ⟨"PolicyVerifierModel", "filter", "(I)I"⟩) : Cond) ∈ ALL := al_t 519 (by decide +kernel) (by decide +kernel)
theorem wd520 : ((.selects "PolicyVerifierModel" ⟨"PolicyVerifierModel", "filter", "(I)I"⟩ ⟨"PolicyVerifierModel", "filter", "(I)I"⟩) : Cond) ∈ ALL := al_t 520 (by decide +kernel) (by decide +kernel)
theorem wd521 : ((.code ⟨"PolicyVerifierModel", "filter", "(I)I"⟩ prog_6_method_17_code 2 (some .int)) : Cond) ∈ ALL := al_t 521 (by decide +kernel) (by decide +kernel)
theorem wd522 : ((.methodLink "PolicyVerifierLaw" 96 ⟨"PolicyVerifierModel", "same", "(II)I"⟩) : Cond) ∈ ALL := al_t 522 (by decide +kernel) (by decide +kernel)
theorem wd523 : ((.instanceMethod ⟨"PolicyVerifierModel", "same", "(II)I"⟩) : Cond) ∈ ALL := al_t 523 (by decide +kernel) (by decide +kernel)
theorem wd524 : ((.selects "PolicyVerifierModel" ⟨"PolicyVerifierModel", "same", "(II)I"⟩ ⟨"PolicyVerifierModel", "same", "(II)I"⟩) : Cond) ∈ ALL := al_t 524 (by decide +kernel) (by decide +kernel)
theorem wd525 : ((.code ⟨"PolicyVerifierModel", "same", "(II)I"⟩ prog_6_method_19_code 3 (some .int)) : Cond) ∈ ALL := al_t 525 (by decide +kernel) (by decide +kernel)
theorem wd526 : ((.methodLink "PolicyVerifierModel" 70 ⟨"PolicyVerifierModel", "apart", "(II)I"⟩) : Cond) ∈ ALL := al_t 526 (by decide +kernel) (by decide +kernel)
theorem wd528 : ((.instanceMethod ⟨"PolicyVerifierModel", "apart", "(II)I"⟩) : Cond) ∈ ALL := al_t 528 (by decide +kernel) (by decide +kernel)
theorem wd529 : ((.code ⟨"PolicyVerifierModel", "apart", "(II)I"⟩ prog_6_method_18_code 4 (some .int)) : Cond) ∈ ALL := al_t 529 (by decide +kernel) (by decide +kernel)
theorem wd530 : ((.methodLink "PolicyVerifierLaw" 99 ⟨"PolicyVerifierModel", "covers", "(II)I"⟩) : Cond) ∈ ALL := al_t 530 (by decide +kernel) (by decide +kernel)
theorem wd531 : ((.instanceMethod ⟨"PolicyVerifierModel", "covers", "(II)I"⟩) : Cond) ∈ ALL := al_t 531 (by decide +kernel) (by decide +kernel)
theorem wd532 : ((.selects "PolicyVerifierModel" ⟨"PolicyVerifierModel", "covers", "(II)I"⟩ ⟨"PolicyVerifierModel", "covers", "(II)I"⟩) : Cond) ∈ ALL := al_t 532 (by decide +kernel) (by decide +kernel)
theorem wd533 : ((.code ⟨"PolicyVerifierModel", "covers", "(II)I"⟩ prog_6_method_20_code 4 (some .int)) : Cond) ∈ ALL := al_t 533 (by decide +kernel) (by decide +kernel)
theorem wd534 : ((.constantLong "PolicyVerifierModel" 73 (-1)) : Cond) ∈ ALL := al_t 534 (by decide +kernel) (by decide +kernel)
theorem wd535 : ((.methodLink "PolicyVerifierLaw" 102 ⟨"PolicyVerifierModel", "differ", "(II)I"⟩) : Cond) ∈ ALL := al_t 535 (by decide +kernel) (by decide +kernel)
theorem wd536 : ((.instanceMethod ⟨"PolicyVerifierModel", "differ", "(II)I"⟩) : Cond) ∈ ALL := al_t 536 (by decide +kernel) (by decide +kernel)
theorem wd537 : ((.selects "PolicyVerifierModel" ⟨"PolicyVerifierModel", "differ", "(II)I"⟩ ⟨"PolicyVerifierModel", "differ", "(II)I"⟩) : Cond) ∈ ALL := al_t 537 (by decide +kernel) (by decide +kernel)
theorem wd538 : ((.code ⟨"PolicyVerifierModel", "differ", "(II)I"⟩ prog_6_method_21_code 4 (some .int)) : Cond) ∈ ALL := al_t 538 (by decide +kernel) (by decide +kernel)
theorem wd539 : ((.methodLink "PolicyVerifierLaw" 105 ⟨"PolicyVerifierModel", "rules", "(I)I"⟩) : Cond) ∈ ALL := al_t 539 (by decide +kernel) (by decide +kernel)
theorem wd540 : ((.instanceMethod ⟨"PolicyVerifierModel", "rules", "(I)I"⟩) : Cond) ∈ ALL := al_t 540 (by decide +kernel) (by decide +kernel)
theorem wd541 : ((.selects "PolicyVerifierModel" ⟨"PolicyVerifierModel", "rules", "(I)I"⟩ ⟨"PolicyVerifierModel", "rules", "(I)I"⟩) : Cond) ∈ ALL := al_t 541 (by decide +kernel) (by decide +kernel)
theorem wd542 : ((.code ⟨"PolicyVerifierModel", "rules", "(I)I"⟩ prog_6_method_26_code 2 (some .int)) : Cond) ∈ ALL := al_t 542 (by decide +kernel) (by decide +kernel)
theorem wd543 : ((.methodLink "PolicyVerifierModel" 92 ⟨"PolicyVerifierModel", "table", "(I)I"⟩) : Cond) ∈ ALL := al_t 543 (by decide +kernel) (by decide +kernel)
theorem wd545 : ((.instanceMethod ⟨"PolicyVerifierModel", "table", "(I)I"⟩) : Cond) ∈ ALL := al_t 545 (by decide +kernel) (by decide +kernel)
theorem wd546 : ((.code ⟨"PolicyVerifierModel", "table", "(I)I"⟩ prog_6_method_25_code 5 (some .int)) : Cond) ∈ ALL := al_t 546 (by decide +kernel) (by decide +kernel)
theorem wd547 : ((.methodLink "PolicyVerifierModel" 89 ⟨"PolicyVerifierModel", "uniform", "(III)Z"⟩) : Cond) ∈ ALL := al_t 547 (by decide +kernel) (by decide +kernel)
theorem wd549 : ((.instanceMethod ⟨"PolicyVerifierModel", "uniform", "(III)Z"⟩) : Cond) ∈ ALL := al_t 549 (by decide +kernel) (by decide +kernel)
theorem wd550 : ((.code ⟨"PolicyVerifierModel", "uniform", "(III)Z"⟩ prog_6_method_24_code 9 (some .boolean)) : Cond) ∈ ALL := al_t 550 (by decide +kernel) (by decide +kernel)
theorem wd551 : ((.methodLink "PolicyVerifierModel" 85 ⟨"PolicyVerifierModel", "respond", "(II)V"⟩) : Cond) ∈ ALL := al_t 551 (by decide +kernel) (by decide +kernel)
theorem wd553 : ((.instanceMethod ⟨"PolicyVerifierModel", "respond", "(II)V"⟩) : Cond) ∈ ALL := al_t 553 (by decide +kernel) (by decide +kernel)
theorem wd554 : ((.code ⟨"PolicyVerifierModel", "respond", "(II)V"⟩ prog_6_method_23_code 7 none) : Cond) ∈ ALL := al_t 554 (by decide +kernel) (by decide +kernel)
theorem wd555 : ((.methodLink "PolicyVerifierModel" 82 ⟨"PolicyVerifierModel", "action", "(II)I"⟩) : Cond) ∈ ALL := al_t 555 (by decide +kernel) (by decide +kernel)
theorem wd556 : ((.static ⟨"PolicyVerifierModel", "action", "(II)I"⟩) : Cond) ∈ ALL := al_t 556 (by decide +kernel) (by decide +kernel)
theorem wd557 : ((.code ⟨"PolicyVerifierModel", "action", "(II)I"⟩ prog_6_method_22_code 4 (some .int)) : Cond) ∈ ALL := al_t 557 (by decide +kernel) (by decide +kernel)
theorem wd558 : ((.methodLink "PolicyVerifierLaw" 109 ⟨"PolicyVerifierModel", "rule", "(III)I"⟩) : Cond) ∈ ALL := al_t 558 (by decide +kernel) (by decide +kernel)
theorem wd559 : ((.instanceMethod ⟨"PolicyVerifierModel", "rule", "(III)I"⟩) : Cond) ∈ ALL := al_t 559 (by decide +kernel) (by decide +kernel)
theorem wd560 : ((.selects "PolicyVerifierModel" ⟨"PolicyVerifierModel", "rule", "(III)I"⟩ ⟨"PolicyVerifierModel", "rule", "(III)I"⟩) : Cond) ∈ ALL := al_t 560 (by decide +kernel) (by decide +kernel)
theorem wd561 : ((.code ⟨"PolicyVerifierModel", "rule", "(III)I"⟩ prog_6_method_28_code 5 (some .int)) : Cond) ∈ ALL := al_t 561 (by decide +kernel) (by decide +kernel)
theorem wd562 : ((.methodLink "PolicyVerifierModel" 95 ⟨"PolicyVerifierModel", "ones", "(J)I"⟩) : Cond) ∈ ALL := al_t 562 (by decide +kernel) (by decide +kernel)
theorem wd563 : ((.static ⟨"PolicyVerifierModel", "ones", "(J)I"⟩) : Cond) ∈ ALL := al_t 563 (by decide +kernel) (by decide +kernel)
theorem wd564 : ((.code ⟨"PolicyVerifierModel", "ones", "(J)I"⟩ prog_6_method_27_code 4 (some .int)) : Cond) ∈ ALL := al_t 564 (by decide +kernel) (by decide +kernel)
theorem wd565 : ((.methodLink "PolicyVerifierLaw" 112 ⟨"PolicyVerifierModel", "match", "(II)I"⟩) : Cond) ∈ ALL := al_t 565 (by decide +kernel) (by decide +kernel)
theorem wd566 : ((.instanceMethod ⟨"PolicyVerifierModel", "match", "(II)I"⟩) : Cond) ∈ ALL := al_t 566 (by decide +kernel) (by decide +kernel)
theorem wd567 : ((.selects "PolicyVerifierModel" ⟨"PolicyVerifierModel", "match", "(II)I"⟩ ⟨"PolicyVerifierModel", "match", "(II)I"⟩) : Cond) ∈ ALL := al_t 567 (by decide +kernel) (by decide +kernel)
theorem wd568 : ((.code ⟨"PolicyVerifierModel", "match", "(II)I"⟩ prog_6_method_29_code 5 (some .int)) : Cond) ∈ ALL := al_t 568 (by decide +kernel) (by decide +kernel)
theorem wd569 : ((.methodLink "PolicyVerifierLaw" 116 ⟨"PolicyVerifierModel", "hops", "(IIJ)I"⟩) : Cond) ∈ ALL := al_t 569 (by decide +kernel) (by decide +kernel)
theorem wd570 : ((.instanceMethod ⟨"PolicyVerifierModel", "hops", "(IIJ)I"⟩) : Cond) ∈ ALL := al_t 570 (by decide +kernel) (by decide +kernel)
theorem wd571 : ((.selects "PolicyVerifierModel" ⟨"PolicyVerifierModel", "hops", "(IIJ)I"⟩ ⟨"PolicyVerifierModel", "hops", "(IIJ)I"⟩) : Cond) ∈ ALL := al_t 571 (by decide +kernel) (by decide +kernel)
theorem wd572 : ((.code ⟨"PolicyVerifierModel", "hops", "(IIJ)I"⟩ prog_6_method_30_code 8 (some .int)) : Cond) ∈ ALL := al_t 572 (by decide +kernel) (by decide +kernel)
theorem wd573 : ((.methodLink "PolicyVerifierLaw" 119 ⟨"PolicyVerifierModel", "count", "(I)I"⟩) : Cond) ∈ ALL := al_t 573 (by decide +kernel) (by decide +kernel)
theorem wd574 : ((.instanceMethod ⟨"PolicyVerifierModel", "count", "(I)I"⟩) : Cond) ∈ ALL := al_t 574 (by decide +kernel) (by decide +kernel)
theorem wd575 : ((.selects "PolicyVerifierModel" ⟨"PolicyVerifierModel", "count", "(I)I"⟩ ⟨"PolicyVerifierModel", "count", "(I)I"⟩) : Cond) ∈ ALL := al_t 575 (by decide +kernel) (by decide +kernel)
theorem wd576 : ((.code ⟨"PolicyVerifierModel", "count", "(I)I"⟩ prog_6_method_31_code 5 (some .int)) : Cond) ∈ ALL := al_t 576 (by decide +kernel) (by decide +kernel)
theorem wd577 : ((.constantLong "PolicyVerifierLaw" 81 4294967295) : Cond) ∈ ALL := al_t 577 (by decide +kernel) (by decide +kernel)
theorem inP : ∀ w ∈ u_ws RP TP 3, w ∈ ALL := by decide +kernel
theorem inQ : ∀ w ∈ u_ws RQ TQ 2, w ∈ ALL := by decide +kernel
theorem inT : ∀ w ∈ u_ws RT TT 4, w ∈ ALL := by decide +kernel
theorem inV : ∀ w ∈ u_ws RV TV 4, w ∈ ALL := by decide +kernel
theorem inM : ∀ w ∈ u_ws RM TM 8, w ∈ ALL := by decide +kernel
end
section
theorem dJ_bitCount_0 : decode cJ_bitCount 0 = .ok (.lload_n 0, 1) := by decide +kernel
theorem dJ_bitCount_1 : decode cJ_bitCount 1 = .ok (.lload_n 0, 1) := by decide +kernel
theorem dJ_bitCount_2 : decode cJ_bitCount 2 = .ok (.iconst 1, 1) := by decide +kernel
theorem dJ_bitCount_3 : decode cJ_bitCount 3 = .ok (.lushr, 1) := by decide +kernel
theorem dJ_bitCount_4 : decode cJ_bitCount 4 = .ok (.ldc2_w 314, 3) := by decide +kernel
theorem dJ_bitCount_7 : decode cJ_bitCount 7 = .ok (.land, 1) := by decide +kernel
theorem dJ_bitCount_8 : decode cJ_bitCount 8 = .ok (.lsub, 1) := by decide +kernel
theorem dJ_bitCount_9 : decode cJ_bitCount 9 = .ok (.lstore_n 0, 1) := by decide +kernel
theorem dJ_bitCount_10 : decode cJ_bitCount 10 = .ok (.lload_n 0, 1) := by decide +kernel
theorem dJ_bitCount_11 : decode cJ_bitCount 11 = .ok (.ldc2_w 316, 3) := by decide +kernel
theorem dJ_bitCount_14 : decode cJ_bitCount 14 = .ok (.land, 1) := by decide +kernel
theorem dJ_bitCount_15 : decode cJ_bitCount 15 = .ok (.lload_n 0, 1) := by decide +kernel
theorem dJ_bitCount_16 : decode cJ_bitCount 16 = .ok (.iconst 2, 1) := by decide +kernel
theorem dJ_bitCount_17 : decode cJ_bitCount 17 = .ok (.lushr, 1) := by decide +kernel
theorem dJ_bitCount_18 : decode cJ_bitCount 18 = .ok (.ldc2_w 316, 3) := by decide +kernel
theorem dJ_bitCount_21 : decode cJ_bitCount 21 = .ok (.land, 1) := by decide +kernel
theorem dJ_bitCount_22 : decode cJ_bitCount 22 = .ok (.ladd, 1) := by decide +kernel
theorem dJ_bitCount_23 : decode cJ_bitCount 23 = .ok (.lstore_n 0, 1) := by decide +kernel
theorem dJ_bitCount_24 : decode cJ_bitCount 24 = .ok (.lload_n 0, 1) := by decide +kernel
theorem dJ_bitCount_25 : decode cJ_bitCount 25 = .ok (.lload_n 0, 1) := by decide +kernel
theorem dJ_bitCount_26 : decode cJ_bitCount 26 = .ok (.iconst 4, 1) := by decide +kernel
theorem dJ_bitCount_27 : decode cJ_bitCount 27 = .ok (.lushr, 1) := by decide +kernel
theorem dJ_bitCount_28 : decode cJ_bitCount 28 = .ok (.ladd, 1) := by decide +kernel
theorem dJ_bitCount_29 : decode cJ_bitCount 29 = .ok (.ldc2_w 318, 3) := by decide +kernel
theorem dJ_bitCount_32 : decode cJ_bitCount 32 = .ok (.land, 1) := by decide +kernel
theorem dJ_bitCount_33 : decode cJ_bitCount 33 = .ok (.lstore_n 0, 1) := by decide +kernel
theorem dJ_bitCount_34 : decode cJ_bitCount 34 = .ok (.lload_n 0, 1) := by decide +kernel
theorem dJ_bitCount_35 : decode cJ_bitCount 35 = .ok (.lload_n 0, 1) := by decide +kernel
theorem dJ_bitCount_36 : decode cJ_bitCount 36 = .ok (.bipush 8, 2) := by decide +kernel
theorem dJ_bitCount_38 : decode cJ_bitCount 38 = .ok (.lushr, 1) := by decide +kernel
theorem dJ_bitCount_39 : decode cJ_bitCount 39 = .ok (.ladd, 1) := by decide +kernel
theorem dJ_bitCount_40 : decode cJ_bitCount 40 = .ok (.lstore_n 0, 1) := by decide +kernel
theorem dJ_bitCount_41 : decode cJ_bitCount 41 = .ok (.lload_n 0, 1) := by decide +kernel
theorem dJ_bitCount_42 : decode cJ_bitCount 42 = .ok (.lload_n 0, 1) := by decide +kernel
theorem dJ_bitCount_43 : decode cJ_bitCount 43 = .ok (.bipush 16, 2) := by decide +kernel
theorem dJ_bitCount_45 : decode cJ_bitCount 45 = .ok (.lushr, 1) := by decide +kernel
theorem dJ_bitCount_46 : decode cJ_bitCount 46 = .ok (.ladd, 1) := by decide +kernel
theorem dJ_bitCount_47 : decode cJ_bitCount 47 = .ok (.lstore_n 0, 1) := by decide +kernel
theorem dJ_bitCount_48 : decode cJ_bitCount 48 = .ok (.lload_n 0, 1) := by decide +kernel
theorem dJ_bitCount_49 : decode cJ_bitCount 49 = .ok (.lload_n 0, 1) := by decide +kernel
theorem dJ_bitCount_50 : decode cJ_bitCount 50 = .ok (.bipush 32, 2) := by decide +kernel
theorem dJ_bitCount_52 : decode cJ_bitCount 52 = .ok (.lushr, 1) := by decide +kernel
theorem dJ_bitCount_53 : decode cJ_bitCount 53 = .ok (.ladd, 1) := by decide +kernel
theorem dJ_bitCount_54 : decode cJ_bitCount 54 = .ok (.lstore_n 0, 1) := by decide +kernel
theorem dJ_bitCount_55 : decode cJ_bitCount 55 = .ok (.lload_n 0, 1) := by decide +kernel
theorem dJ_bitCount_56 : decode cJ_bitCount 56 = .ok (.l2i, 1) := by decide +kernel
theorem dJ_bitCount_57 : decode cJ_bitCount 57 = .ok (.bipush 127, 2) := by decide +kernel
theorem dJ_bitCount_59 : decode cJ_bitCount 59 = .ok (.iand, 1) := by decide +kernel
theorem dJ_bitCount_60 : decode cJ_bitCount 60 = .ok (.ireturn, 1) := by decide +kernel
theorem dL_policy_0 : decode cL_policy 0 = .ok (.aload 5, 2) := by decide +kernel
theorem dL_policy_2 : decode cL_policy 2 = .ok (.iconst 0, 1) := by decide +kernel
theorem dL_policy_3 : decode cL_policy 3 = .ok (.aload_n 0, 1) := by decide +kernel
theorem dL_policy_4 : decode cL_policy 4 = .ok (.iload_n 1, 1) := by decide +kernel
theorem dL_policy_5 : decode cL_policy 5 = .ok (.iload_n 2, 1) := by decide +kernel
theorem dL_policy_6 : decode cL_policy 6 = .ok (.iload_n 3, 1) := by decide +kernel
theorem dL_policy_7 : decode cL_policy 7 = .ok (.iload 4, 2) := by decide +kernel
theorem dL_policy_9 : decode cL_policy 9 = .ok (.invokevirtual 7, 3) := by decide +kernel
theorem dL_policy_12 : decode cL_policy 12 = .ok (.i2l, 1) := by decide +kernel
theorem dL_policy_13 : decode cL_policy 13 = .ok (.lastore, 1) := by decide +kernel
theorem dL_policy_14 : decode cL_policy 14 = .ok (.goto 15, 3) := by decide +kernel
theorem dL_policy_17 : decode cL_policy 17 = .ok (.astore 6, 2) := by decide +kernel
theorem dL_policy_19 : decode cL_policy 19 = .ok (.iconst 1, 1) := by decide +kernel
theorem dL_policy_20 : decode cL_policy 20 = .ok (.ireturn, 1) := by decide +kernel
theorem dL_policy_21 : decode cL_policy 21 = .ok (.astore 6, 2) := by decide +kernel
theorem dL_policy_23 : decode cL_policy 23 = .ok (.iconst 2, 1) := by decide +kernel
theorem dL_policy_24 : decode cL_policy 24 = .ok (.ireturn, 1) := by decide +kernel
theorem dL_policy_25 : decode cL_policy 25 = .ok (.astore 6, 2) := by decide +kernel
theorem dL_policy_27 : decode cL_policy 27 = .ok (.iconst 3, 1) := by decide +kernel
theorem dL_policy_28 : decode cL_policy 28 = .ok (.ireturn, 1) := by decide +kernel
theorem dL_policy_29 : decode cL_policy 29 = .ok (.iconst 0, 1) := by decide +kernel
theorem dL_policy_30 : decode cL_policy 30 = .ok (.ireturn, 1) := by decide +kernel
theorem dL_outcome_0 : decode cL_outcome 0 = .ok (.aload_n 3, 1) := by decide +kernel
theorem dL_outcome_1 : decode cL_outcome 1 = .ok (.iconst 0, 1) := by decide +kernel
theorem dL_outcome_2 : decode cL_outcome 2 = .ok (.aload_n 0, 1) := by decide +kernel
theorem dL_outcome_3 : decode cL_outcome 3 = .ok (.iload_n 1, 1) := by decide +kernel
theorem dL_outcome_4 : decode cL_outcome 4 = .ok (.iload_n 2, 1) := by decide +kernel
theorem dL_outcome_5 : decode cL_outcome 5 = .ok (.invokevirtual 19, 3) := by decide +kernel
theorem dL_outcome_8 : decode cL_outcome 8 = .ok (.lastore, 1) := by decide +kernel
theorem dL_outcome_9 : decode cL_outcome 9 = .ok (.goto 11, 3) := by decide +kernel
theorem dL_outcome_12 : decode cL_outcome 12 = .ok (.astore 4, 2) := by decide +kernel
theorem dL_outcome_14 : decode cL_outcome 14 = .ok (.iconst 1, 1) := by decide +kernel
theorem dL_outcome_15 : decode cL_outcome 15 = .ok (.ireturn, 1) := by decide +kernel
theorem dL_outcome_16 : decode cL_outcome 16 = .ok (.astore 4, 2) := by decide +kernel
theorem dL_outcome_18 : decode cL_outcome 18 = .ok (.iconst 2, 1) := by decide +kernel
theorem dL_outcome_19 : decode cL_outcome 19 = .ok (.ireturn, 1) := by decide +kernel
theorem dL_outcome_20 : decode cL_outcome 20 = .ok (.iconst 0, 1) := by decide +kernel
theorem dL_outcome_21 : decode cL_outcome 21 = .ok (.ireturn, 1) := by decide +kernel
theorem dL_image_0 : decode cL_image 0 = .ok (.aload 4, 2) := by decide +kernel
theorem dL_image_2 : decode cL_image 2 = .ok (.iconst 0, 1) := by decide +kernel
theorem dL_image_3 : decode cL_image 3 = .ok (.aload_n 0, 1) := by decide +kernel
theorem dL_image_4 : decode cL_image 4 = .ok (.iload_n 1, 1) := by decide +kernel
theorem dL_image_5 : decode cL_image 5 = .ok (.lload_n 2, 1) := by decide +kernel
theorem dL_image_6 : decode cL_image 6 = .ok (.invokevirtual 25, 3) := by decide +kernel
theorem dL_image_9 : decode cL_image 9 = .ok (.lastore, 1) := by decide +kernel
theorem dL_image_10 : decode cL_image 10 = .ok (.goto 7, 3) := by decide +kernel
theorem dL_image_13 : decode cL_image 13 = .ok (.astore 5, 2) := by decide +kernel
theorem dL_image_15 : decode cL_image 15 = .ok (.iconst 1, 1) := by decide +kernel
theorem dL_image_16 : decode cL_image 16 = .ok (.ireturn, 1) := by decide +kernel
theorem dL_image_17 : decode cL_image 17 = .ok (.iconst 0, 1) := by decide +kernel
theorem dL_image_18 : decode cL_image 18 = .ok (.ireturn, 1) := by decide +kernel
theorem dL_source_0 : decode cL_source 0 = .ok (.aload 4, 2) := by decide +kernel
theorem dL_source_2 : decode cL_source 2 = .ok (.iconst 0, 1) := by decide +kernel
theorem dL_source_3 : decode cL_source 3 = .ok (.aload_n 0, 1) := by decide +kernel
theorem dL_source_4 : decode cL_source 4 = .ok (.iload_n 1, 1) := by decide +kernel
theorem dL_source_5 : decode cL_source 5 = .ok (.lload_n 2, 1) := by decide +kernel
theorem dL_source_6 : decode cL_source 6 = .ok (.invokevirtual 29, 3) := by decide +kernel
theorem dL_source_9 : decode cL_source 9 = .ok (.lastore, 1) := by decide +kernel
theorem dL_source_10 : decode cL_source 10 = .ok (.goto 7, 3) := by decide +kernel
theorem dL_source_13 : decode cL_source 13 = .ok (.astore 5, 2) := by decide +kernel
theorem dL_source_15 : decode cL_source 15 = .ok (.iconst 1, 1) := by decide +kernel
theorem dL_source_16 : decode cL_source 16 = .ok (.ireturn, 1) := by decide +kernel
theorem dL_source_17 : decode cL_source 17 = .ok (.iconst 0, 1) := by decide +kernel
theorem dL_source_18 : decode cL_source 18 = .ok (.ireturn, 1) := by decide +kernel
theorem dL_filter_0 : decode cL_filter 0 = .ok (.aload_n 2, 1) := by decide +kernel
theorem dL_filter_1 : decode cL_filter 1 = .ok (.iconst 0, 1) := by decide +kernel
theorem dL_filter_2 : decode cL_filter 2 = .ok (.aload_n 0, 1) := by decide +kernel
theorem dL_filter_3 : decode cL_filter 3 = .ok (.iload_n 1, 1) := by decide +kernel
theorem dL_filter_4 : decode cL_filter 4 = .ok (.invokevirtual 32, 3) := by decide +kernel
theorem dL_filter_7 : decode cL_filter 7 = .ok (.i2l, 1) := by decide +kernel
theorem dL_filter_8 : decode cL_filter 8 = .ok (.lastore, 1) := by decide +kernel
theorem dL_filter_9 : decode cL_filter 9 = .ok (.goto 6, 3) := by decide +kernel
theorem dL_filter_12 : decode cL_filter 12 = .ok (.astore_n 3, 1) := by decide +kernel
theorem dL_filter_13 : decode cL_filter 13 = .ok (.iconst 1, 1) := by decide +kernel
theorem dL_filter_14 : decode cL_filter 14 = .ok (.ireturn, 1) := by decide +kernel
theorem dL_filter_15 : decode cL_filter 15 = .ok (.iconst 0, 1) := by decide +kernel
theorem dL_filter_16 : decode cL_filter 16 = .ok (.ireturn, 1) := by decide +kernel
theorem dL_same_0 : decode cL_same 0 = .ok (.aload_n 3, 1) := by decide +kernel
theorem dL_same_1 : decode cL_same 1 = .ok (.iconst 0, 1) := by decide +kernel
theorem dL_same_2 : decode cL_same 2 = .ok (.aload_n 0, 1) := by decide +kernel
theorem dL_same_3 : decode cL_same 3 = .ok (.iload_n 1, 1) := by decide +kernel
theorem dL_same_4 : decode cL_same 4 = .ok (.iload_n 2, 1) := by decide +kernel
theorem dL_same_5 : decode cL_same 5 = .ok (.invokevirtual 36, 3) := by decide +kernel
theorem dL_same_8 : decode cL_same 8 = .ok (.i2l, 1) := by decide +kernel
theorem dL_same_9 : decode cL_same 9 = .ok (.lastore, 1) := by decide +kernel
theorem dL_same_10 : decode cL_same 10 = .ok (.goto 7, 3) := by decide +kernel
theorem dL_same_13 : decode cL_same 13 = .ok (.astore 4, 2) := by decide +kernel
theorem dL_same_15 : decode cL_same 15 = .ok (.iconst 1, 1) := by decide +kernel
theorem dL_same_16 : decode cL_same 16 = .ok (.ireturn, 1) := by decide +kernel
theorem dL_same_17 : decode cL_same 17 = .ok (.iconst 0, 1) := by decide +kernel
theorem dL_same_18 : decode cL_same 18 = .ok (.ireturn, 1) := by decide +kernel
theorem dL_covers_0 : decode cL_covers 0 = .ok (.aload_n 3, 1) := by decide +kernel
theorem dL_covers_1 : decode cL_covers 1 = .ok (.iconst 0, 1) := by decide +kernel
theorem dL_covers_2 : decode cL_covers 2 = .ok (.aload_n 0, 1) := by decide +kernel
theorem dL_covers_3 : decode cL_covers 3 = .ok (.iload_n 1, 1) := by decide +kernel
theorem dL_covers_4 : decode cL_covers 4 = .ok (.iload_n 2, 1) := by decide +kernel
theorem dL_covers_5 : decode cL_covers 5 = .ok (.invokevirtual 40, 3) := by decide +kernel
theorem dL_covers_8 : decode cL_covers 8 = .ok (.i2l, 1) := by decide +kernel
theorem dL_covers_9 : decode cL_covers 9 = .ok (.lastore, 1) := by decide +kernel
theorem dL_covers_10 : decode cL_covers 10 = .ok (.goto 7, 3) := by decide +kernel
theorem dL_covers_13 : decode cL_covers 13 = .ok (.astore 4, 2) := by decide +kernel
theorem dL_covers_15 : decode cL_covers 15 = .ok (.iconst 1, 1) := by decide +kernel
theorem dL_covers_16 : decode cL_covers 16 = .ok (.ireturn, 1) := by decide +kernel
theorem dL_covers_17 : decode cL_covers 17 = .ok (.iconst 0, 1) := by decide +kernel
theorem dL_covers_18 : decode cL_covers 18 = .ok (.ireturn, 1) := by decide +kernel
theorem dL_differ_0 : decode cL_differ 0 = .ok (.aload_n 3, 1) := by decide +kernel
theorem dL_differ_1 : decode cL_differ 1 = .ok (.iconst 0, 1) := by decide +kernel
theorem dL_differ_2 : decode cL_differ 2 = .ok (.aload_n 0, 1) := by decide +kernel
theorem dL_differ_3 : decode cL_differ 3 = .ok (.iload_n 1, 1) := by decide +kernel
theorem dL_differ_4 : decode cL_differ 4 = .ok (.iload_n 2, 1) := by decide +kernel
theorem dL_differ_5 : decode cL_differ 5 = .ok (.invokevirtual 43, 3) := by decide +kernel
theorem dL_differ_8 : decode cL_differ 8 = .ok (.i2l, 1) := by decide +kernel
theorem dL_differ_9 : decode cL_differ 9 = .ok (.lastore, 1) := by decide +kernel
theorem dL_differ_10 : decode cL_differ 10 = .ok (.goto 11, 3) := by decide +kernel
theorem dL_differ_13 : decode cL_differ 13 = .ok (.astore 4, 2) := by decide +kernel
theorem dL_differ_15 : decode cL_differ 15 = .ok (.iconst 1, 1) := by decide +kernel
theorem dL_differ_16 : decode cL_differ 16 = .ok (.ireturn, 1) := by decide +kernel
theorem dL_differ_17 : decode cL_differ 17 = .ok (.astore 4, 2) := by decide +kernel
theorem dL_differ_19 : decode cL_differ 19 = .ok (.iconst 2, 1) := by decide +kernel
theorem dL_differ_20 : decode cL_differ 20 = .ok (.ireturn, 1) := by decide +kernel
theorem dL_differ_21 : decode cL_differ 21 = .ok (.iconst 0, 1) := by decide +kernel
theorem dL_differ_22 : decode cL_differ 22 = .ok (.ireturn, 1) := by decide +kernel
theorem dL_rules_0 : decode cL_rules 0 = .ok (.aload_n 2, 1) := by decide +kernel
theorem dL_rules_1 : decode cL_rules 1 = .ok (.iconst 0, 1) := by decide +kernel
theorem dL_rules_2 : decode cL_rules 2 = .ok (.aload_n 0, 1) := by decide +kernel
theorem dL_rules_3 : decode cL_rules 3 = .ok (.iload_n 1, 1) := by decide +kernel
theorem dL_rules_4 : decode cL_rules 4 = .ok (.invokevirtual 46, 3) := by decide +kernel
theorem dL_rules_7 : decode cL_rules 7 = .ok (.i2l, 1) := by decide +kernel
theorem dL_rules_8 : decode cL_rules 8 = .ok (.lastore, 1) := by decide +kernel
theorem dL_rules_9 : decode cL_rules 9 = .ok (.goto 6, 3) := by decide +kernel
theorem dL_rules_12 : decode cL_rules 12 = .ok (.astore_n 3, 1) := by decide +kernel
theorem dL_rules_13 : decode cL_rules 13 = .ok (.iconst 1, 1) := by decide +kernel
theorem dL_rules_14 : decode cL_rules 14 = .ok (.ireturn, 1) := by decide +kernel
theorem dL_rules_15 : decode cL_rules 15 = .ok (.iconst 0, 1) := by decide +kernel
theorem dL_rules_16 : decode cL_rules 16 = .ok (.ireturn, 1) := by decide +kernel
theorem dL_rule_0 : decode cL_rule 0 = .ok (.aload 4, 2) := by decide +kernel
theorem dL_rule_2 : decode cL_rule 2 = .ok (.iconst 0, 1) := by decide +kernel
theorem dL_rule_3 : decode cL_rule 3 = .ok (.aload_n 0, 1) := by decide +kernel
theorem dL_rule_4 : decode cL_rule 4 = .ok (.iload_n 1, 1) := by decide +kernel
theorem dL_rule_5 : decode cL_rule 5 = .ok (.iload_n 2, 1) := by decide +kernel
theorem dL_rule_6 : decode cL_rule 6 = .ok (.iload_n 3, 1) := by decide +kernel
theorem dL_rule_7 : decode cL_rule 7 = .ok (.invokevirtual 49, 3) := by decide +kernel
theorem dL_rule_10 : decode cL_rule 10 = .ok (.i2l, 1) := by decide +kernel
theorem dL_rule_11 : decode cL_rule 11 = .ok (.lastore, 1) := by decide +kernel
theorem dL_rule_12 : decode cL_rule 12 = .ok (.goto 11, 3) := by decide +kernel
theorem dL_rule_15 : decode cL_rule 15 = .ok (.astore 5, 2) := by decide +kernel
theorem dL_rule_17 : decode cL_rule 17 = .ok (.iconst 1, 1) := by decide +kernel
theorem dL_rule_18 : decode cL_rule 18 = .ok (.ireturn, 1) := by decide +kernel
theorem dL_rule_19 : decode cL_rule 19 = .ok (.astore 5, 2) := by decide +kernel
theorem dL_rule_21 : decode cL_rule 21 = .ok (.iconst 2, 1) := by decide +kernel
theorem dL_rule_22 : decode cL_rule 22 = .ok (.ireturn, 1) := by decide +kernel
theorem dL_rule_23 : decode cL_rule 23 = .ok (.iconst 0, 1) := by decide +kernel
theorem dL_rule_24 : decode cL_rule 24 = .ok (.ireturn, 1) := by decide +kernel
theorem dL_match_0 : decode cL_match 0 = .ok (.aload_n 3, 1) := by decide +kernel
theorem dL_match_1 : decode cL_match 1 = .ok (.iconst 0, 1) := by decide +kernel
theorem dL_match_2 : decode cL_match 2 = .ok (.aload_n 0, 1) := by decide +kernel
theorem dL_match_3 : decode cL_match 3 = .ok (.iload_n 1, 1) := by decide +kernel
theorem dL_match_4 : decode cL_match 4 = .ok (.iload_n 2, 1) := by decide +kernel
theorem dL_match_5 : decode cL_match 5 = .ok (.invokevirtual 53, 3) := by decide +kernel
theorem dL_match_8 : decode cL_match 8 = .ok (.i2l, 1) := by decide +kernel
theorem dL_match_9 : decode cL_match 9 = .ok (.lastore, 1) := by decide +kernel
theorem dL_match_10 : decode cL_match 10 = .ok (.goto 11, 3) := by decide +kernel
theorem dL_match_13 : decode cL_match 13 = .ok (.astore 4, 2) := by decide +kernel
theorem dL_match_15 : decode cL_match 15 = .ok (.iconst 1, 1) := by decide +kernel
theorem dL_match_16 : decode cL_match 16 = .ok (.ireturn, 1) := by decide +kernel
theorem dL_match_17 : decode cL_match 17 = .ok (.astore 4, 2) := by decide +kernel
theorem dL_match_19 : decode cL_match 19 = .ok (.iconst 2, 1) := by decide +kernel
theorem dL_match_20 : decode cL_match 20 = .ok (.ireturn, 1) := by decide +kernel
theorem dL_match_21 : decode cL_match 21 = .ok (.iconst 0, 1) := by decide +kernel
theorem dL_match_22 : decode cL_match 22 = .ok (.ireturn, 1) := by decide +kernel
theorem dL_hops_0 : decode cL_hops 0 = .ok (.aload 5, 2) := by decide +kernel
theorem dL_hops_2 : decode cL_hops 2 = .ok (.iconst 0, 1) := by decide +kernel
theorem dL_hops_3 : decode cL_hops 3 = .ok (.aload_n 0, 1) := by decide +kernel
theorem dL_hops_4 : decode cL_hops 4 = .ok (.iload_n 1, 1) := by decide +kernel
theorem dL_hops_5 : decode cL_hops 5 = .ok (.iload_n 2, 1) := by decide +kernel
theorem dL_hops_6 : decode cL_hops 6 = .ok (.lload_n 3, 1) := by decide +kernel
theorem dL_hops_7 : decode cL_hops 7 = .ok (.invokevirtual 56, 3) := by decide +kernel
theorem dL_hops_10 : decode cL_hops 10 = .ok (.i2l, 1) := by decide +kernel
theorem dL_hops_11 : decode cL_hops 11 = .ok (.lastore, 1) := by decide +kernel
theorem dL_hops_12 : decode cL_hops 12 = .ok (.goto 11, 3) := by decide +kernel
theorem dL_hops_15 : decode cL_hops 15 = .ok (.astore 6, 2) := by decide +kernel
theorem dL_hops_17 : decode cL_hops 17 = .ok (.iconst 1, 1) := by decide +kernel
theorem dL_hops_18 : decode cL_hops 18 = .ok (.ireturn, 1) := by decide +kernel
theorem dL_hops_19 : decode cL_hops 19 = .ok (.astore 6, 2) := by decide +kernel
theorem dL_hops_21 : decode cL_hops 21 = .ok (.iconst 2, 1) := by decide +kernel
theorem dL_hops_22 : decode cL_hops 22 = .ok (.ireturn, 1) := by decide +kernel
theorem dL_hops_23 : decode cL_hops 23 = .ok (.iconst 0, 1) := by decide +kernel
theorem dL_hops_24 : decode cL_hops 24 = .ok (.ireturn, 1) := by decide +kernel
theorem dL_count_0 : decode cL_count 0 = .ok (.aload_n 2, 1) := by decide +kernel
theorem dL_count_1 : decode cL_count 1 = .ok (.iconst 0, 1) := by decide +kernel
theorem dL_count_2 : decode cL_count 2 = .ok (.aload_n 0, 1) := by decide +kernel
theorem dL_count_3 : decode cL_count 3 = .ok (.iload_n 1, 1) := by decide +kernel
theorem dL_count_4 : decode cL_count 4 = .ok (.invokevirtual 60, 3) := by decide +kernel
theorem dL_count_7 : decode cL_count 7 = .ok (.i2l, 1) := by decide +kernel
theorem dL_count_8 : decode cL_count 8 = .ok (.lastore, 1) := by decide +kernel
theorem dL_count_9 : decode cL_count 9 = .ok (.goto 6, 3) := by decide +kernel
theorem dL_count_12 : decode cL_count 12 = .ok (.astore_n 3, 1) := by decide +kernel
theorem dL_count_13 : decode cL_count 13 = .ok (.iconst 1, 1) := by decide +kernel
theorem dL_count_14 : decode cL_count 14 = .ok (.ireturn, 1) := by decide +kernel
theorem dL_count_15 : decode cL_count 15 = .ok (.iconst 0, 1) := by decide +kernel
theorem dL_count_16 : decode cL_count 16 = .ok (.ireturn, 1) := by decide +kernel
theorem dP_init_0 : decode cP_init 0 = .ok (.aload_n 0, 1) := by decide +kernel
theorem dP_init_1 : decode cP_init 1 = .ok (.invokespecial 3, 3) := by decide +kernel
theorem dP_init_4 : decode cP_init 4 = .ok (.aload_n 0, 1) := by decide +kernel
theorem dP_init_5 : decode cP_init 5 = .ok (.iload_n 1, 1) := by decide +kernel
theorem dP_init_6 : decode cP_init 6 = .ok (.putfield 9, 3) := by decide +kernel
theorem dP_init_9 : decode cP_init 9 = .ok (.aload_n 0, 1) := by decide +kernel
theorem dP_init_10 : decode cP_init 10 = .ok (.bipush 64, 2) := by decide +kernel
theorem dP_init_12 : decode cP_init 12 = .ok (.newarray .long, 2) := by decide +kernel
theorem dP_init_14 : decode cP_init 14 = .ok (.putfield 15, 3) := by decide +kernel
theorem dP_init_17 : decode cP_init 17 = .ok (.aload_n 0, 1) := by decide +kernel
theorem dP_init_18 : decode cP_init 18 = .ok (.aconst_null, 1) := by decide +kernel
theorem dP_init_19 : decode cP_init 19 = .ok (.putfield 19, 3) := by decide +kernel
theorem dP_init_22 : decode cP_init 22 = .ok (.return_, 1) := by decide +kernel
theorem dQ_init_0 : decode cQ_init 0 = .ok (.aload_n 0, 1) := by decide +kernel
theorem dQ_init_1 : decode cQ_init 1 = .ok (.invokespecial 3, 3) := by decide +kernel
theorem dQ_init_4 : decode cQ_init 4 = .ok (.aload_n 0, 1) := by decide +kernel
theorem dQ_init_5 : decode cQ_init 5 = .ok (.bipush 64, 2) := by decide +kernel
theorem dQ_init_7 : decode cQ_init 7 = .ok (.newarray .long, 2) := by decide +kernel
theorem dQ_init_9 : decode cQ_init 9 = .ok (.putfield 9, 3) := by decide +kernel
theorem dQ_init_12 : decode cQ_init 12 = .ok (.aload_n 0, 1) := by decide +kernel
theorem dQ_init_13 : decode cQ_init 13 = .ok (.bipush 64, 2) := by decide +kernel
theorem dQ_init_15 : decode cQ_init 15 = .ok (.newarray .long, 2) := by decide +kernel
theorem dQ_init_17 : decode cQ_init 17 = .ok (.putfield 15, 3) := by decide +kernel
theorem dQ_init_20 : decode cQ_init 20 = .ok (.return_, 1) := by decide +kernel
theorem dQ_read_0 : decode cQ_read 0 = .ok (.iconst 0, 1) := by decide +kernel
theorem dQ_read_1 : decode cQ_read 1 = .ok (.istore_n 2, 1) := by decide +kernel
theorem dQ_read_2 : decode cQ_read 2 = .ok (.iload_n 2, 1) := by decide +kernel
theorem dQ_read_3 : decode cQ_read 3 = .ok (.bipush 64, 2) := by decide +kernel
theorem dQ_read_5 : decode cQ_read 5 = .ok (.if_icmp .ge 17, 3) := by decide +kernel
theorem dQ_read_8 : decode cQ_read 8 = .ok (.aload_n 0, 1) := by decide +kernel
theorem dQ_read_9 : decode cQ_read 9 = .ok (.iload_n 2, 1) := by decide +kernel
theorem dQ_read_10 : decode cQ_read 10 = .ok (.aload_n 1, 1) := by decide +kernel
theorem dQ_read_11 : decode cQ_read 11 = .ok (.iload_n 2, 1) := by decide +kernel
theorem dQ_read_12 : decode cQ_read 12 = .ok (.laload, 1) := by decide +kernel
theorem dQ_read_13 : decode cQ_read 13 = .ok (.invokevirtual 18, 3) := by decide +kernel
theorem dQ_read_16 : decode cQ_read 16 = .ok (.iinc 2 1, 3) := by decide +kernel
theorem dQ_read_19 : decode cQ_read 19 = .ok (.goto (-17), 3) := by decide +kernel
theorem dQ_read_22 : decode cQ_read 22 = .ok (.return_, 1) := by decide +kernel
theorem dQ_readPacket_0 : decode cQ_readPacket 0 = .ok (.lconst 0, 1) := by decide +kernel
theorem dQ_readPacket_1 : decode cQ_readPacket 1 = .ok (.lstore 4, 2) := by decide +kernel
theorem dQ_readPacket_3 : decode cQ_readPacket 3 = .ok (.lconst 0, 1) := by decide +kernel
theorem dQ_readPacket_4 : decode cQ_readPacket 4 = .ok (.lstore 6, 2) := by decide +kernel
theorem dQ_readPacket_6 : decode cQ_readPacket 6 = .ok (.iconst 0, 1) := by decide +kernel
theorem dQ_readPacket_7 : decode cQ_readPacket 7 = .ok (.istore 8, 2) := by decide +kernel
theorem dQ_readPacket_9 : decode cQ_readPacket 9 = .ok (.iload 8, 2) := by decide +kernel
theorem dQ_readPacket_11 : decode cQ_readPacket 11 = .ok (.bipush 64, 2) := by decide +kernel
theorem dQ_readPacket_13 : decode cQ_readPacket 13 = .ok (.if_icmp .ge 57, 3) := by decide +kernel
theorem dQ_readPacket_16 : decode cQ_readPacket 16 = .ok (.lload_n 2, 1) := by decide +kernel
theorem dQ_readPacket_17 : decode cQ_readPacket 17 = .ok (.iload 8, 2) := by decide +kernel
theorem dQ_readPacket_19 : decode cQ_readPacket 19 = .ok (.invokestatic 22, 3) := by decide +kernel
theorem dQ_readPacket_22 : decode cQ_readPacket 22 = .ok (.ifCond .eq 42, 3) := by decide +kernel
theorem dQ_readPacket_25 : decode cQ_readPacket 25 = .ok (.iload_n 1, 1) := by decide +kernel
theorem dQ_readPacket_26 : decode cQ_readPacket 26 = .ok (.iload 8, 2) := by decide +kernel
theorem dQ_readPacket_28 : decode cQ_readPacket 28 = .ok (.invokestatic 26, 3) := by decide +kernel
theorem dQ_readPacket_31 : decode cQ_readPacket 31 = .ok (.istore 9, 2) := by decide +kernel
theorem dQ_readPacket_33 : decode cQ_readPacket 33 = .ok (.iload 9, 2) := by decide +kernel
theorem dQ_readPacket_35 : decode cQ_readPacket 35 = .ok (.bipush 64, 2) := by decide +kernel
theorem dQ_readPacket_37 : decode cQ_readPacket 37 = .ok (.if_icmp .ge 15, 3) := by decide +kernel
theorem dQ_readPacket_40 : decode cQ_readPacket 40 = .ok (.lload 4, 2) := by decide +kernel
theorem dQ_readPacket_42 : decode cQ_readPacket 42 = .ok (.lconst 1, 1) := by decide +kernel
theorem dQ_readPacket_43 : decode cQ_readPacket 43 = .ok (.iload 9, 2) := by decide +kernel
theorem dQ_readPacket_45 : decode cQ_readPacket 45 = .ok (.lshl, 1) := by decide +kernel
theorem dQ_readPacket_46 : decode cQ_readPacket 46 = .ok (.lor, 1) := by decide +kernel
theorem dQ_readPacket_47 : decode cQ_readPacket 47 = .ok (.lstore 4, 2) := by decide +kernel
theorem dQ_readPacket_49 : decode cQ_readPacket 49 = .ok (.goto 15, 3) := by decide +kernel
theorem dQ_readPacket_52 : decode cQ_readPacket 52 = .ok (.lload 6, 2) := by decide +kernel
theorem dQ_readPacket_54 : decode cQ_readPacket 54 = .ok (.lconst 1, 1) := by decide +kernel
theorem dQ_readPacket_55 : decode cQ_readPacket 55 = .ok (.iload 9, 2) := by decide +kernel
theorem dQ_readPacket_57 : decode cQ_readPacket 57 = .ok (.bipush 64, 2) := by decide +kernel
theorem dQ_readPacket_59 : decode cQ_readPacket 59 = .ok (.isub, 1) := by decide +kernel
theorem dQ_readPacket_60 : decode cQ_readPacket 60 = .ok (.lshl, 1) := by decide +kernel
theorem dQ_readPacket_61 : decode cQ_readPacket 61 = .ok (.lor, 1) := by decide +kernel
theorem dQ_readPacket_62 : decode cQ_readPacket 62 = .ok (.lstore 6, 2) := by decide +kernel
theorem dQ_readPacket_64 : decode cQ_readPacket 64 = .ok (.iinc 8 1, 3) := by decide +kernel
theorem dQ_readPacket_67 : decode cQ_readPacket 67 = .ok (.goto (-58), 3) := by decide +kernel
theorem dQ_readPacket_70 : decode cQ_readPacket 70 = .ok (.aload_n 0, 1) := by decide +kernel
theorem dQ_readPacket_71 : decode cQ_readPacket 71 = .ok (.getfield 9, 3) := by decide +kernel
theorem dQ_readPacket_74 : decode cQ_readPacket 74 = .ok (.iload_n 1, 1) := by decide +kernel
theorem dQ_readPacket_75 : decode cQ_readPacket 75 = .ok (.lload 4, 2) := by decide +kernel
theorem dQ_readPacket_77 : decode cQ_readPacket 77 = .ok (.lastore, 1) := by decide +kernel
theorem dQ_readPacket_78 : decode cQ_readPacket 78 = .ok (.aload_n 0, 1) := by decide +kernel
theorem dQ_readPacket_79 : decode cQ_readPacket 79 = .ok (.getfield 15, 3) := by decide +kernel
theorem dQ_readPacket_82 : decode cQ_readPacket 82 = .ok (.iload_n 1, 1) := by decide +kernel
theorem dQ_readPacket_83 : decode cQ_readPacket 83 = .ok (.lload 6, 2) := by decide +kernel
theorem dQ_readPacket_85 : decode cQ_readPacket 85 = .ok (.lastore, 1) := by decide +kernel
theorem dQ_readPacket_86 : decode cQ_readPacket 86 = .ok (.return_, 1) := by decide +kernel
theorem dQ_actionFrom_0 : decode cQ_actionFrom 0 = .ok (.iconst 0, 1) := by decide +kernel
theorem dQ_actionFrom_1 : decode cQ_actionFrom 1 = .ok (.istore_n 2, 1) := by decide +kernel
theorem dQ_actionFrom_2 : decode cQ_actionFrom 2 = .ok (.iconst 0, 1) := by decide +kernel
theorem dQ_actionFrom_3 : decode cQ_actionFrom 3 = .ok (.istore_n 3, 1) := by decide +kernel
theorem dQ_actionFrom_4 : decode cQ_actionFrom 4 = .ok (.iload_n 3, 1) := by decide +kernel
theorem dQ_actionFrom_5 : decode cQ_actionFrom 5 = .ok (.iconst 3, 1) := by decide +kernel
theorem dQ_actionFrom_6 : decode cQ_actionFrom 6 = .ok (.if_icmp .ge 37, 3) := by decide +kernel
theorem dQ_actionFrom_9 : decode cQ_actionFrom 9 = .ok (.iload_n 1, 1) := by decide +kernel
theorem dQ_actionFrom_10 : decode cQ_actionFrom 10 = .ok (.iload_n 3, 1) := by decide +kernel
theorem dQ_actionFrom_11 : decode cQ_actionFrom 11 = .ok (.invokestatic 30, 3) := by decide +kernel
theorem dQ_actionFrom_14 : decode cQ_actionFrom 14 = .ok (.istore 4, 2) := by decide +kernel
theorem dQ_actionFrom_16 : decode cQ_actionFrom 16 = .ok (.iload_n 2, 1) := by decide +kernel
theorem dQ_actionFrom_17 : decode cQ_actionFrom 17 = .ok (.iconst 5, 1) := by decide +kernel
theorem dQ_actionFrom_18 : decode cQ_actionFrom 18 = .ok (.imul, 1) := by decide +kernel
theorem dQ_actionFrom_19 : decode cQ_actionFrom 19 = .ok (.iload 4, 2) := by decide +kernel
theorem dQ_actionFrom_21 : decode cQ_actionFrom 21 = .ok (.iload_n 0, 1) := by decide +kernel
theorem dQ_actionFrom_22 : decode cQ_actionFrom 22 = .ok (.iload_n 3, 1) := by decide +kernel
theorem dQ_actionFrom_23 : decode cQ_actionFrom 23 = .ok (.invokestatic 30, 3) := by decide +kernel
theorem dQ_actionFrom_26 : decode cQ_actionFrom 26 = .ok (.if_icmp .ne 7, 3) := by decide +kernel
theorem dQ_actionFrom_29 : decode cQ_actionFrom 29 = .ok (.iconst 4, 1) := by decide +kernel
theorem dQ_actionFrom_30 : decode cQ_actionFrom 30 = .ok (.goto 5, 3) := by decide +kernel
theorem dQ_actionFrom_33 : decode cQ_actionFrom 33 = .ok (.iload 4, 2) := by decide +kernel
theorem dQ_actionFrom_35 : decode cQ_actionFrom 35 = .ok (.iadd, 1) := by decide +kernel
theorem dQ_actionFrom_36 : decode cQ_actionFrom 36 = .ok (.istore_n 2, 1) := by decide +kernel
theorem dQ_actionFrom_37 : decode cQ_actionFrom 37 = .ok (.iinc 3 1, 3) := by decide +kernel
theorem dQ_actionFrom_40 : decode cQ_actionFrom 40 = .ok (.goto (-36), 3) := by decide +kernel
theorem dQ_actionFrom_43 : decode cQ_actionFrom 43 = .ok (.iload_n 2, 1) := by decide +kernel
theorem dQ_actionFrom_44 : decode cQ_actionFrom 44 = .ok (.ireturn, 1) := by decide +kernel
theorem dQ_areAlike_0 : decode cQ_areAlike 0 = .ok (.iload_n 1, 1) := by decide +kernel
theorem dQ_areAlike_1 : decode cQ_areAlike 1 = .ok (.iconst 1, 1) := by decide +kernel
theorem dQ_areAlike_2 : decode cQ_areAlike 2 = .ok (.iadd, 1) := by decide +kernel
theorem dQ_areAlike_3 : decode cQ_areAlike 3 = .ok (.istore_n 3, 1) := by decide +kernel
theorem dQ_areAlike_4 : decode cQ_areAlike 4 = .ok (.iload_n 3, 1) := by decide +kernel
theorem dQ_areAlike_5 : decode cQ_areAlike 5 = .ok (.iload_n 1, 1) := by decide +kernel
theorem dQ_areAlike_6 : decode cQ_areAlike 6 = .ok (.iload_n 2, 1) := by decide +kernel
theorem dQ_areAlike_7 : decode cQ_areAlike 7 = .ok (.iadd, 1) := by decide +kernel
theorem dQ_areAlike_8 : decode cQ_areAlike 8 = .ok (.if_icmp .ge 43, 3) := by decide +kernel
theorem dQ_areAlike_11 : decode cQ_areAlike 11 = .ok (.aload_n 0, 1) := by decide +kernel
theorem dQ_areAlike_12 : decode cQ_areAlike 12 = .ok (.getfield 9, 3) := by decide +kernel
theorem dQ_areAlike_15 : decode cQ_areAlike 15 = .ok (.iload_n 3, 1) := by decide +kernel
theorem dQ_areAlike_16 : decode cQ_areAlike 16 = .ok (.laload, 1) := by decide +kernel
theorem dQ_areAlike_17 : decode cQ_areAlike 17 = .ok (.aload_n 0, 1) := by decide +kernel
theorem dQ_areAlike_18 : decode cQ_areAlike 18 = .ok (.getfield 9, 3) := by decide +kernel
theorem dQ_areAlike_21 : decode cQ_areAlike 21 = .ok (.iload_n 1, 1) := by decide +kernel
theorem dQ_areAlike_22 : decode cQ_areAlike 22 = .ok (.laload, 1) := by decide +kernel
theorem dQ_areAlike_23 : decode cQ_areAlike 23 = .ok (.lcmp, 1) := by decide +kernel
theorem dQ_areAlike_24 : decode cQ_areAlike 24 = .ok (.ifCond .ne 19, 3) := by decide +kernel
theorem dQ_areAlike_27 : decode cQ_areAlike 27 = .ok (.aload_n 0, 1) := by decide +kernel
theorem dQ_areAlike_28 : decode cQ_areAlike 28 = .ok (.getfield 15, 3) := by decide +kernel
theorem dQ_areAlike_31 : decode cQ_areAlike 31 = .ok (.iload_n 3, 1) := by decide +kernel
theorem dQ_areAlike_32 : decode cQ_areAlike 32 = .ok (.laload, 1) := by decide +kernel
theorem dQ_areAlike_33 : decode cQ_areAlike 33 = .ok (.aload_n 0, 1) := by decide +kernel
theorem dQ_areAlike_34 : decode cQ_areAlike 34 = .ok (.getfield 15, 3) := by decide +kernel
theorem dQ_areAlike_37 : decode cQ_areAlike 37 = .ok (.iload_n 1, 1) := by decide +kernel
theorem dQ_areAlike_38 : decode cQ_areAlike 38 = .ok (.laload, 1) := by decide +kernel
theorem dQ_areAlike_39 : decode cQ_areAlike 39 = .ok (.lcmp, 1) := by decide +kernel
theorem dQ_areAlike_40 : decode cQ_areAlike 40 = .ok (.ifCond .eq 5, 3) := by decide +kernel
theorem dQ_areAlike_43 : decode cQ_areAlike 43 = .ok (.iconst 0, 1) := by decide +kernel
theorem dQ_areAlike_44 : decode cQ_areAlike 44 = .ok (.ireturn, 1) := by decide +kernel
theorem dQ_areAlike_45 : decode cQ_areAlike 45 = .ok (.iinc 3 1, 3) := by decide +kernel
theorem dQ_areAlike_48 : decode cQ_areAlike 48 = .ok (.goto (-44), 3) := by decide +kernel
theorem dQ_areAlike_51 : decode cQ_areAlike 51 = .ok (.iconst 1, 1) := by decide +kernel
theorem dQ_areAlike_52 : decode cQ_areAlike 52 = .ok (.ireturn, 1) := by decide +kernel
theorem dT_init_0 : decode cT_init 0 = .ok (.aload_n 0, 1) := by decide +kernel
theorem dT_init_1 : decode cT_init 1 = .ok (.invokespecial 3, 3) := by decide +kernel
theorem dT_init_4 : decode cT_init 4 = .ok (.aload_n 0, 1) := by decide +kernel
theorem dT_init_5 : decode cT_init 5 = .ok (.bipush 64, 2) := by decide +kernel
theorem dT_init_7 : decode cT_init 7 = .ok (.newarray .int, 2) := by decide +kernel
theorem dT_init_9 : decode cT_init 9 = .ok (.putfield 9, 3) := by decide +kernel
theorem dT_init_12 : decode cT_init 12 = .ok (.aload_n 0, 1) := by decide +kernel
theorem dT_init_13 : decode cT_init 13 = .ok (.bipush 64, 2) := by decide +kernel
theorem dT_init_15 : decode cT_init 15 = .ok (.newarray .int, 2) := by decide +kernel
theorem dT_init_17 : decode cT_init 17 = .ok (.putfield 15, 3) := by decide +kernel
theorem dT_init_20 : decode cT_init 20 = .ok (.aload_n 0, 1) := by decide +kernel
theorem dT_init_21 : decode cT_init 21 = .ok (.bipush 64, 2) := by decide +kernel
theorem dT_init_23 : decode cT_init 23 = .ok (.newarray .int, 2) := by decide +kernel
theorem dT_init_25 : decode cT_init 25 = .ok (.putfield 18, 3) := by decide +kernel
theorem dT_init_28 : decode cT_init 28 = .ok (.aload_n 0, 1) := by decide +kernel
theorem dT_init_29 : decode cT_init 29 = .ok (.iconst 0, 1) := by decide +kernel
theorem dT_init_30 : decode cT_init 30 = .ok (.putfield 21, 3) := by decide +kernel
theorem dT_init_33 : decode cT_init 33 = .ok (.return_, 1) := by decide +kernel
theorem dT_fill_0 : decode cT_fill 0 = .ok (.aload_n 0, 1) := by decide +kernel
theorem dT_fill_1 : decode cT_fill 1 = .ok (.aload_n 1, 1) := by decide +kernel
theorem dT_fill_2 : decode cT_fill 2 = .ok (.iconst 0, 1) := by decide +kernel
theorem dT_fill_3 : decode cT_fill 3 = .ok (.iconst 0, 1) := by decide +kernel
theorem dT_fill_4 : decode cT_fill 4 = .ok (.invokevirtual 25, 3) := by decide +kernel
theorem dT_fill_7 : decode cT_fill 7 = .ok (.return_, 1) := by decide +kernel
theorem dT_addRegion_0 : decode cT_addRegion 0 = .ok (.bipush 64, 2) := by decide +kernel
theorem dT_addRegion_2 : decode cT_addRegion 2 = .ok (.iconst 2, 1) := by decide +kernel
theorem dT_addRegion_3 : decode cT_addRegion 3 = .ok (.iload_n 3, 1) := by decide +kernel
theorem dT_addRegion_4 : decode cT_addRegion 4 = .ok (.imul, 1) := by decide +kernel
theorem dT_addRegion_5 : decode cT_addRegion 5 = .ok (.ishr, 1) := by decide +kernel
theorem dT_addRegion_6 : decode cT_addRegion 6 = .ok (.istore 4, 2) := by decide +kernel
theorem dT_addRegion_8 : decode cT_addRegion 8 = .ok (.iload_n 3, 1) := by decide +kernel
theorem dT_addRegion_9 : decode cT_addRegion 9 = .ok (.iconst 3, 1) := by decide +kernel
theorem dT_addRegion_10 : decode cT_addRegion 10 = .ok (.if_icmp .ge 13, 3) := by decide +kernel
theorem dT_addRegion_13 : decode cT_addRegion 13 = .ok (.aload_n 1, 1) := by decide +kernel
theorem dT_addRegion_14 : decode cT_addRegion 14 = .ok (.iload_n 2, 1) := by decide +kernel
theorem dT_addRegion_15 : decode cT_addRegion 15 = .ok (.iload 4, 2) := by decide +kernel
theorem dT_addRegion_17 : decode cT_addRegion 17 = .ok (.invokevirtual 29, 3) := by decide +kernel
theorem dT_addRegion_20 : decode cT_addRegion 20 = .ok (.ifCond .eq 12, 3) := by decide +kernel
theorem dT_addRegion_23 : decode cT_addRegion 23 = .ok (.aload_n 0, 1) := by decide +kernel
theorem dT_addRegion_24 : decode cT_addRegion 24 = .ok (.iload_n 2, 1) := by decide +kernel
theorem dT_addRegion_25 : decode cT_addRegion 25 = .ok (.iload_n 3, 1) := by decide +kernel
theorem dT_addRegion_26 : decode cT_addRegion 26 = .ok (.iload 4, 2) := by decide +kernel
theorem dT_addRegion_28 : decode cT_addRegion 28 = .ok (.invokevirtual 35, 3) := by decide +kernel
theorem dT_addRegion_31 : decode cT_addRegion 31 = .ok (.return_, 1) := by decide +kernel
theorem dT_addRegion_32 : decode cT_addRegion 32 = .ok (.iconst 0, 1) := by decide +kernel
theorem dT_addRegion_33 : decode cT_addRegion 33 = .ok (.istore 5, 2) := by decide +kernel
theorem dT_addRegion_35 : decode cT_addRegion 35 = .ok (.iload 5, 2) := by decide +kernel
theorem dT_addRegion_37 : decode cT_addRegion 37 = .ok (.iconst 4, 1) := by decide +kernel
theorem dT_addRegion_38 : decode cT_addRegion 38 = .ok (.if_icmp .ge 26, 3) := by decide +kernel
theorem dT_addRegion_41 : decode cT_addRegion 41 = .ok (.aload_n 0, 1) := by decide +kernel
theorem dT_addRegion_42 : decode cT_addRegion 42 = .ok (.aload_n 1, 1) := by decide +kernel
theorem dT_addRegion_43 : decode cT_addRegion 43 = .ok (.iload_n 2, 1) := by decide +kernel
theorem dT_addRegion_44 : decode cT_addRegion 44 = .ok (.iload 5, 2) := by decide +kernel
theorem dT_addRegion_46 : decode cT_addRegion 46 = .ok (.iload_n 3, 1) := by decide +kernel
theorem dT_addRegion_47 : decode cT_addRegion 47 = .ok (.invokestatic 39, 3) := by decide +kernel
theorem dT_addRegion_50 : decode cT_addRegion 50 = .ok (.imul, 1) := by decide +kernel
theorem dT_addRegion_51 : decode cT_addRegion 51 = .ok (.iadd, 1) := by decide +kernel
theorem dT_addRegion_52 : decode cT_addRegion 52 = .ok (.iload_n 3, 1) := by decide +kernel
theorem dT_addRegion_53 : decode cT_addRegion 53 = .ok (.iconst 1, 1) := by decide +kernel
theorem dT_addRegion_54 : decode cT_addRegion 54 = .ok (.iadd, 1) := by decide +kernel
theorem dT_addRegion_55 : decode cT_addRegion 55 = .ok (.invokevirtual 25, 3) := by decide +kernel
theorem dT_addRegion_58 : decode cT_addRegion 58 = .ok (.iinc 5 1, 3) := by decide +kernel
theorem dT_addRegion_61 : decode cT_addRegion 61 = .ok (.goto (-26), 3) := by decide +kernel
theorem dT_addRegion_64 : decode cT_addRegion 64 = .ok (.return_, 1) := by decide +kernel
theorem dT_addRule_0 : decode cT_addRule 0 = .ok (.aload_n 0, 1) := by decide +kernel
theorem dT_addRule_1 : decode cT_addRule 1 = .ok (.getfield 9, 3) := by decide +kernel
theorem dT_addRule_4 : decode cT_addRule 4 = .ok (.aload_n 0, 1) := by decide +kernel
theorem dT_addRule_5 : decode cT_addRule 5 = .ok (.getfield 21, 3) := by decide +kernel
theorem dT_addRule_8 : decode cT_addRule 8 = .ok (.iload_n 1, 1) := by decide +kernel
theorem dT_addRule_9 : decode cT_addRule 9 = .ok (.iastore, 1) := by decide +kernel
theorem dT_addRule_10 : decode cT_addRule 10 = .ok (.aload_n 0, 1) := by decide +kernel
theorem dT_addRule_11 : decode cT_addRule 11 = .ok (.getfield 15, 3) := by decide +kernel
theorem dT_addRule_14 : decode cT_addRule 14 = .ok (.aload_n 0, 1) := by decide +kernel
theorem dT_addRule_15 : decode cT_addRule 15 = .ok (.getfield 21, 3) := by decide +kernel
theorem dT_addRule_18 : decode cT_addRule 18 = .ok (.iload_n 2, 1) := by decide +kernel
theorem dT_addRule_19 : decode cT_addRule 19 = .ok (.iastore, 1) := by decide +kernel
theorem dT_addRule_20 : decode cT_addRule 20 = .ok (.iload_n 1, 1) := by decide +kernel
theorem dT_addRule_21 : decode cT_addRule 21 = .ok (.istore 4, 2) := by decide +kernel
theorem dT_addRule_23 : decode cT_addRule 23 = .ok (.iload 4, 2) := by decide +kernel
theorem dT_addRule_25 : decode cT_addRule 25 = .ok (.iload_n 1, 1) := by decide +kernel
theorem dT_addRule_26 : decode cT_addRule 26 = .ok (.iload_n 3, 1) := by decide +kernel
theorem dT_addRule_27 : decode cT_addRule 27 = .ok (.iadd, 1) := by decide +kernel
theorem dT_addRule_28 : decode cT_addRule 28 = .ok (.if_icmp .ge 20, 3) := by decide +kernel
theorem dT_addRule_31 : decode cT_addRule 31 = .ok (.aload_n 0, 1) := by decide +kernel
theorem dT_addRule_32 : decode cT_addRule 32 = .ok (.getfield 18, 3) := by decide +kernel
theorem dT_addRule_35 : decode cT_addRule 35 = .ok (.iload 4, 2) := by decide +kernel
theorem dT_addRule_37 : decode cT_addRule 37 = .ok (.aload_n 0, 1) := by decide +kernel
theorem dT_addRule_38 : decode cT_addRule 38 = .ok (.getfield 21, 3) := by decide +kernel
theorem dT_addRule_41 : decode cT_addRule 41 = .ok (.iastore, 1) := by decide +kernel
theorem dT_addRule_42 : decode cT_addRule 42 = .ok (.iinc 4 1, 3) := by decide +kernel
theorem dT_addRule_45 : decode cT_addRule 45 = .ok (.goto (-22), 3) := by decide +kernel
theorem dT_addRule_48 : decode cT_addRule 48 = .ok (.aload_n 0, 1) := by decide +kernel
theorem dT_addRule_49 : decode cT_addRule 49 = .ok (.dup, 1) := by decide +kernel
theorem dT_addRule_50 : decode cT_addRule 50 = .ok (.getfield 21, 3) := by decide +kernel
theorem dT_addRule_53 : decode cT_addRule 53 = .ok (.iconst 1, 1) := by decide +kernel
theorem dT_addRule_54 : decode cT_addRule 54 = .ok (.iadd, 1) := by decide +kernel
theorem dT_addRule_55 : decode cT_addRule 55 = .ok (.putfield 21, 3) := by decide +kernel
theorem dT_addRule_58 : decode cT_addRule 58 = .ok (.return_, 1) := by decide +kernel
theorem dV_init_0 : decode cV_init 0 = .ok (.aload_n 0, 1) := by decide +kernel
theorem dV_init_1 : decode cV_init 1 = .ok (.invokespecial 1, 3) := by decide +kernel
theorem dV_init_4 : decode cV_init 4 = .ok (.aload_n 0, 1) := by decide +kernel
theorem dV_init_5 : decode cV_init 5 = .ok (.bipush 50, 2) := by decide +kernel
theorem dV_init_7 : decode cV_init 7 = .ok (.anewarray 9, 3) := by decide +kernel
theorem dV_init_10 : decode cV_init 10 = .ok (.putfield 11, 3) := by decide +kernel
theorem dV_init_13 : decode cV_init 13 = .ok (.aload_n 0, 1) := by decide +kernel
theorem dV_init_14 : decode cV_init 14 = .ok (.new 15, 3) := by decide +kernel
theorem dV_init_17 : decode cV_init 17 = .ok (.dup, 1) := by decide +kernel
theorem dV_init_18 : decode cV_init 18 = .ok (.invokespecial 17, 3) := by decide +kernel
theorem dV_init_21 : decode cV_init 21 = .ok (.putfield 18, 3) := by decide +kernel
theorem dV_init_24 : decode cV_init 24 = .ok (.aload_n 0, 1) := by decide +kernel
theorem dV_init_25 : decode cV_init 25 = .ok (.iconst 0, 1) := by decide +kernel
theorem dV_init_26 : decode cV_init 26 = .ok (.putfield 22, 3) := by decide +kernel
theorem dV_init_29 : decode cV_init 29 = .ok (.aload_n 0, 1) := by decide +kernel
theorem dV_init_30 : decode cV_init 30 = .ok (.iconst 0, 1) := by decide +kernel
theorem dV_init_31 : decode cV_init 31 = .ok (.putfield 26, 3) := by decide +kernel
theorem dV_init_34 : decode cV_init 34 = .ok (.return_, 1) := by decide +kernel
theorem dV_policy_0 : decode cV_policy 0 = .ok (.aload_n 0, 1) := by decide +kernel
theorem dV_policy_1 : decode cV_policy 1 = .ok (.iload_n 1, 1) := by decide +kernel
theorem dV_policy_2 : decode cV_policy 2 = .ok (.iload_n 2, 1) := by decide +kernel
theorem dV_policy_3 : decode cV_policy 3 = .ok (.iload_n 3, 1) := by decide +kernel
theorem dV_policy_4 : decode cV_policy 4 = .ok (.iload 4, 2) := by decide +kernel
theorem dV_policy_6 : decode cV_policy 6 = .ok (.invokevirtual 29, 3) := by decide +kernel
theorem dV_policy_9 : decode cV_policy 9 = .ok (.ifCond .ne 11, 3) := by decide +kernel
theorem dV_policy_12 : decode cV_policy 12 = .ok (.new 33, 3) := by decide +kernel
theorem dV_policy_15 : decode cV_policy 15 = .ok (.dup, 1) := by decide +kernel
theorem dV_policy_16 : decode cV_policy 16 = .ok (.invokespecial 35, 3) := by decide +kernel
theorem dV_policy_19 : decode cV_policy 19 = .ok (.athrow, 1) := by decide +kernel
theorem dV_policy_20 : decode cV_policy 20 = .ok (.iload_n 1, 1) := by decide +kernel
theorem dV_policy_21 : decode cV_policy 21 = .ok (.bipush 7, 2) := by decide +kernel
theorem dV_policy_23 : decode cV_policy 23 = .ok (.if_icmp .eq 9, 3) := by decide +kernel
theorem dV_policy_26 : decode cV_policy 26 = .ok (.iload_n 1, 1) := by decide +kernel
theorem dV_policy_27 : decode cV_policy 27 = .ok (.bipush 8, 2) := by decide +kernel
theorem dV_policy_29 : decode cV_policy 29 = .ok (.if_icmp .ne 23, 3) := by decide +kernel
theorem dV_policy_32 : decode cV_policy 32 = .ok (.aload_n 0, 1) := by decide +kernel
theorem dV_policy_33 : decode cV_policy 33 = .ok (.getfield 11, 3) := by decide +kernel
theorem dV_policy_36 : decode cV_policy 36 = .ok (.iload_n 2, 1) := by decide +kernel
theorem dV_policy_37 : decode cV_policy 37 = .ok (.aaload, 1) := by decide +kernel
theorem dV_policy_38 : decode cV_policy 38 = .ok (.getfield 36, 3) := by decide +kernel
theorem dV_policy_41 : decode cV_policy 41 = .ok (.ifCond .ne 11, 3) := by decide +kernel
theorem dV_policy_44 : decode cV_policy 44 = .ok (.new 40, 3) := by decide +kernel
theorem dV_policy_47 : decode cV_policy 47 = .ok (.dup, 1) := by decide +kernel
theorem dV_policy_48 : decode cV_policy 48 = .ok (.invokespecial 42, 3) := by decide +kernel
theorem dV_policy_51 : decode cV_policy 51 = .ok (.athrow, 1) := by decide +kernel
theorem dV_policy_52 : decode cV_policy 52 = .ok (.aload_n 0, 1) := by decide +kernel
theorem dV_policy_53 : decode cV_policy 53 = .ok (.getfield 22, 3) := by decide +kernel
theorem dV_policy_56 : decode cV_policy 56 = .ok (.bipush 50, 2) := by decide +kernel
theorem dV_policy_58 : decode cV_policy 58 = .ok (.if_icmp .lt 11, 3) := by decide +kernel
theorem dV_policy_61 : decode cV_policy 61 = .ok (.new 43, 3) := by decide +kernel
theorem dV_policy_64 : decode cV_policy 64 = .ok (.dup, 1) := by decide +kernel
theorem dV_policy_65 : decode cV_policy 65 = .ok (.invokespecial 45, 3) := by decide +kernel
theorem dV_policy_68 : decode cV_policy 68 = .ok (.athrow, 1) := by decide +kernel
theorem dV_policy_69 : decode cV_policy 69 = .ok (.new 9, 3) := by decide +kernel
theorem dV_policy_72 : decode cV_policy 72 = .ok (.dup, 1) := by decide +kernel
theorem dV_policy_73 : decode cV_policy 73 = .ok (.aload_n 0, 1) := by decide +kernel
theorem dV_policy_74 : decode cV_policy 74 = .ok (.iload_n 1, 1) := by decide +kernel
theorem dV_policy_75 : decode cV_policy 75 = .ok (.iload_n 2, 1) := by decide +kernel
theorem dV_policy_76 : decode cV_policy 76 = .ok (.iload_n 3, 1) := by decide +kernel
theorem dV_policy_77 : decode cV_policy 77 = .ok (.iload 4, 2) := by decide +kernel
theorem dV_policy_79 : decode cV_policy 79 = .ok (.invokevirtual 46, 3) := by decide +kernel
theorem dV_policy_82 : decode cV_policy 82 = .ok (.invokespecial 49, 3) := by decide +kernel
theorem dV_policy_85 : decode cV_policy 85 = .ok (.astore 5, 2) := by decide +kernel
theorem dV_policy_87 : decode cV_policy 87 = .ok (.aload_n 0, 1) := by decide +kernel
theorem dV_policy_88 : decode cV_policy 88 = .ok (.aload 5, 2) := by decide +kernel
theorem dV_policy_90 : decode cV_policy 90 = .ok (.getfield 52, 3) := by decide +kernel
theorem dV_policy_93 : decode cV_policy 93 = .ok (.iload_n 1, 1) := by decide +kernel
theorem dV_policy_94 : decode cV_policy 94 = .ok (.iload_n 2, 1) := by decide +kernel
theorem dV_policy_95 : decode cV_policy 95 = .ok (.iload_n 3, 1) := by decide +kernel
theorem dV_policy_96 : decode cV_policy 96 = .ok (.iload 4, 2) := by decide +kernel
theorem dV_policy_98 : decode cV_policy 98 = .ok (.invokevirtual 56, 3) := by decide +kernel
theorem dV_policy_101 : decode cV_policy 101 = .ok (.aload_n 0, 1) := by decide +kernel
theorem dV_policy_102 : decode cV_policy 102 = .ok (.aload 5, 2) := by decide +kernel
theorem dV_policy_104 : decode cV_policy 104 = .ok (.invokevirtual 60, 3) := by decide +kernel
theorem dV_policy_107 : decode cV_policy 107 = .ok (.ireturn, 1) := by decide +kernel
theorem dV_outcome_0 : decode cV_outcome 0 = .ok (.aload_n 0, 1) := by decide +kernel
theorem dV_outcome_1 : decode cV_outcome 1 = .ok (.iload_n 1, 1) := by decide +kernel
theorem dV_outcome_2 : decode cV_outcome 2 = .ok (.invokevirtual 64, 3) := by decide +kernel
theorem dV_outcome_5 : decode cV_outcome 5 = .ok (.astore_n 3, 1) := by decide +kernel
theorem dV_outcome_6 : decode cV_outcome 6 = .ok (.iload_n 2, 1) := by decide +kernel
theorem dV_outcome_7 : decode cV_outcome 7 = .ok (.invokestatic 68, 3) := by decide +kernel
theorem dV_outcome_10 : decode cV_outcome 10 = .ok (.aload_n 3, 1) := by decide +kernel
theorem dV_outcome_11 : decode cV_outcome 11 = .ok (.getfield 52, 3) := by decide +kernel
theorem dV_outcome_14 : decode cV_outcome 14 = .ok (.iload_n 2, 1) := by decide +kernel
theorem dV_outcome_15 : decode cV_outcome 15 = .ok (.laload, 1) := by decide +kernel
theorem dV_outcome_16 : decode cV_outcome 16 = .ok (.lreturn, 1) := by decide +kernel
theorem dV_image_0 : decode cV_image 0 = .ok (.aload_n 0, 1) := by decide +kernel
theorem dV_image_1 : decode cV_image 1 = .ok (.iload_n 1, 1) := by decide +kernel
theorem dV_image_2 : decode cV_image 2 = .ok (.invokevirtual 64, 3) := by decide +kernel
theorem dV_image_5 : decode cV_image 5 = .ok (.getfield 52, 3) := by decide +kernel
theorem dV_image_8 : decode cV_image 8 = .ok (.lload_n 2, 1) := by decide +kernel
theorem dV_image_9 : decode cV_image 9 = .ok (.invokestatic 72, 3) := by decide +kernel
theorem dV_image_12 : decode cV_image 12 = .ok (.lreturn, 1) := by decide +kernel
theorem dV_source_0 : decode cV_source 0 = .ok (.aload_n 0, 1) := by decide +kernel
theorem dV_source_1 : decode cV_source 1 = .ok (.iload_n 1, 1) := by decide +kernel
theorem dV_source_2 : decode cV_source 2 = .ok (.invokevirtual 64, 3) := by decide +kernel
theorem dV_source_5 : decode cV_source 5 = .ok (.getfield 52, 3) := by decide +kernel
theorem dV_source_8 : decode cV_source 8 = .ok (.astore 4, 2) := by decide +kernel
theorem dV_source_10 : decode cV_source 10 = .ok (.lconst 0, 1) := by decide +kernel
theorem dV_source_11 : decode cV_source 11 = .ok (.lstore 5, 2) := by decide +kernel
theorem dV_source_13 : decode cV_source 13 = .ok (.iconst 0, 1) := by decide +kernel
theorem dV_source_14 : decode cV_source 14 = .ok (.istore 7, 2) := by decide +kernel
theorem dV_source_16 : decode cV_source 16 = .ok (.iload 7, 2) := by decide +kernel
theorem dV_source_18 : decode cV_source 18 = .ok (.bipush 64, 2) := by decide +kernel
theorem dV_source_20 : decode cV_source 20 = .ok (.if_icmp .ge 31, 3) := by decide +kernel
theorem dV_source_23 : decode cV_source 23 = .ok (.aload 4, 2) := by decide +kernel
theorem dV_source_25 : decode cV_source 25 = .ok (.iload 7, 2) := by decide +kernel
theorem dV_source_27 : decode cV_source 27 = .ok (.laload, 1) := by decide +kernel
theorem dV_source_28 : decode cV_source 28 = .ok (.lload_n 2, 1) := by decide +kernel
theorem dV_source_29 : decode cV_source 29 = .ok (.land, 1) := by decide +kernel
theorem dV_source_30 : decode cV_source 30 = .ok (.lconst 0, 1) := by decide +kernel
theorem dV_source_31 : decode cV_source 31 = .ok (.lcmp, 1) := by decide +kernel
theorem dV_source_32 : decode cV_source 32 = .ok (.ifCond .eq 13, 3) := by decide +kernel
theorem dV_source_35 : decode cV_source 35 = .ok (.lload 5, 2) := by decide +kernel
theorem dV_source_37 : decode cV_source 37 = .ok (.iload 7, 2) := by decide +kernel
theorem dV_source_39 : decode cV_source 39 = .ok (.invokestatic 76, 3) := by decide +kernel
theorem dV_source_42 : decode cV_source 42 = .ok (.lor, 1) := by decide +kernel
theorem dV_source_43 : decode cV_source 43 = .ok (.lstore 5, 2) := by decide +kernel
theorem dV_source_45 : decode cV_source 45 = .ok (.iinc 7 1, 3) := by decide +kernel
theorem dV_source_48 : decode cV_source 48 = .ok (.goto (-32), 3) := by decide +kernel
theorem dV_source_51 : decode cV_source 51 = .ok (.lload 5, 2) := by decide +kernel
theorem dV_source_53 : decode cV_source 53 = .ok (.lreturn, 1) := by decide +kernel
theorem dV_filter_0 : decode cV_filter 0 = .ok (.aload_n 0, 1) := by decide +kernel
theorem dV_filter_1 : decode cV_filter 1 = .ok (.iload_n 1, 1) := by decide +kernel
theorem dV_filter_2 : decode cV_filter 2 = .ok (.invokevirtual 64, 3) := by decide +kernel
theorem dV_filter_5 : decode cV_filter 5 = .ok (.getfield 36, 3) := by decide +kernel
theorem dV_filter_8 : decode cV_filter 8 = .ok (.ifCond .eq 7, 3) := by decide +kernel
theorem dV_filter_11 : decode cV_filter 11 = .ok (.iconst 1, 1) := by decide +kernel
theorem dV_filter_12 : decode cV_filter 12 = .ok (.goto 4, 3) := by decide +kernel
theorem dV_filter_15 : decode cV_filter 15 = .ok (.iconst 0, 1) := by decide +kernel
theorem dV_filter_16 : decode cV_filter 16 = .ok (.ireturn, 1) := by decide +kernel
theorem dV_same_0 : decode cV_same 0 = .ok (.aload_n 0, 1) := by decide +kernel
theorem dV_same_1 : decode cV_same 1 = .ok (.iload_n 1, 1) := by decide +kernel
theorem dV_same_2 : decode cV_same 2 = .ok (.invokevirtual 64, 3) := by decide +kernel
theorem dV_same_5 : decode cV_same 5 = .ok (.getfield 52, 3) := by decide +kernel
theorem dV_same_8 : decode cV_same 8 = .ok (.aload_n 0, 1) := by decide +kernel
theorem dV_same_9 : decode cV_same 9 = .ok (.iload_n 2, 1) := by decide +kernel
theorem dV_same_10 : decode cV_same 10 = .ok (.invokevirtual 64, 3) := by decide +kernel
theorem dV_same_13 : decode cV_same 13 = .ok (.getfield 52, 3) := by decide +kernel
theorem dV_same_16 : decode cV_same 16 = .ok (.invokestatic 80, 3) := by decide +kernel
theorem dV_same_19 : decode cV_same 19 = .ok (.iconst (-1), 1) := by decide +kernel
theorem dV_same_20 : decode cV_same 20 = .ok (.if_icmp .ne 7, 3) := by decide +kernel
theorem dV_same_23 : decode cV_same 23 = .ok (.iconst 1, 1) := by decide +kernel
theorem dV_same_24 : decode cV_same 24 = .ok (.goto 4, 3) := by decide +kernel
theorem dV_same_27 : decode cV_same 27 = .ok (.iconst 0, 1) := by decide +kernel
theorem dV_same_28 : decode cV_same 28 = .ok (.ireturn, 1) := by decide +kernel
theorem dV_covers_0 : decode cV_covers 0 = .ok (.aload_n 0, 1) := by decide +kernel
theorem dV_covers_1 : decode cV_covers 1 = .ok (.iload_n 1, 1) := by decide +kernel
theorem dV_covers_2 : decode cV_covers 2 = .ok (.invokevirtual 64, 3) := by decide +kernel
theorem dV_covers_5 : decode cV_covers 5 = .ok (.getfield 52, 3) := by decide +kernel
theorem dV_covers_8 : decode cV_covers 8 = .ok (.astore_n 3, 1) := by decide +kernel
theorem dV_covers_9 : decode cV_covers 9 = .ok (.aload_n 0, 1) := by decide +kernel
theorem dV_covers_10 : decode cV_covers 10 = .ok (.iload_n 2, 1) := by decide +kernel
theorem dV_covers_11 : decode cV_covers 11 = .ok (.invokevirtual 64, 3) := by decide +kernel
theorem dV_covers_14 : decode cV_covers 14 = .ok (.getfield 52, 3) := by decide +kernel
theorem dV_covers_17 : decode cV_covers 17 = .ok (.astore 4, 2) := by decide +kernel
theorem dV_covers_19 : decode cV_covers 19 = .ok (.iconst 0, 1) := by decide +kernel
theorem dV_covers_20 : decode cV_covers 20 = .ok (.istore 5, 2) := by decide +kernel
theorem dV_covers_22 : decode cV_covers 22 = .ok (.iload 5, 2) := by decide +kernel
theorem dV_covers_24 : decode cV_covers 24 = .ok (.bipush 64, 2) := by decide +kernel
theorem dV_covers_26 : decode cV_covers 26 = .ok (.if_icmp .ge 30, 3) := by decide +kernel
theorem dV_covers_29 : decode cV_covers 29 = .ok (.aload 4, 2) := by decide +kernel
theorem dV_covers_31 : decode cV_covers 31 = .ok (.iload 5, 2) := by decide +kernel
theorem dV_covers_33 : decode cV_covers 33 = .ok (.laload, 1) := by decide +kernel
theorem dV_covers_34 : decode cV_covers 34 = .ok (.aload_n 3, 1) := by decide +kernel
theorem dV_covers_35 : decode cV_covers 35 = .ok (.iload 5, 2) := by decide +kernel
theorem dV_covers_37 : decode cV_covers 37 = .ok (.laload, 1) := by decide +kernel
theorem dV_covers_38 : decode cV_covers 38 = .ok (.ldc2_w 84, 3) := by decide +kernel
theorem dV_covers_41 : decode cV_covers 41 = .ok (.lxor, 1) := by decide +kernel
theorem dV_covers_42 : decode cV_covers 42 = .ok (.land, 1) := by decide +kernel
theorem dV_covers_43 : decode cV_covers 43 = .ok (.lconst 0, 1) := by decide +kernel
theorem dV_covers_44 : decode cV_covers 44 = .ok (.lcmp, 1) := by decide +kernel
theorem dV_covers_45 : decode cV_covers 45 = .ok (.ifCond .eq 5, 3) := by decide +kernel
theorem dV_covers_48 : decode cV_covers 48 = .ok (.iconst 0, 1) := by decide +kernel
theorem dV_covers_49 : decode cV_covers 49 = .ok (.ireturn, 1) := by decide +kernel
theorem dV_covers_50 : decode cV_covers 50 = .ok (.iinc 5 1, 3) := by decide +kernel
theorem dV_covers_53 : decode cV_covers 53 = .ok (.goto (-31), 3) := by decide +kernel
theorem dV_covers_56 : decode cV_covers 56 = .ok (.iconst 1, 1) := by decide +kernel
theorem dV_covers_57 : decode cV_covers 57 = .ok (.ireturn, 1) := by decide +kernel
theorem dV_differ_0 : decode cV_differ 0 = .ok (.aload_n 0, 1) := by decide +kernel
theorem dV_differ_1 : decode cV_differ 1 = .ok (.iload_n 1, 1) := by decide +kernel
theorem dV_differ_2 : decode cV_differ 2 = .ok (.invokevirtual 64, 3) := by decide +kernel
theorem dV_differ_5 : decode cV_differ 5 = .ok (.getfield 52, 3) := by decide +kernel
theorem dV_differ_8 : decode cV_differ 8 = .ok (.aload_n 0, 1) := by decide +kernel
theorem dV_differ_9 : decode cV_differ 9 = .ok (.iload_n 2, 1) := by decide +kernel
theorem dV_differ_10 : decode cV_differ 10 = .ok (.invokevirtual 64, 3) := by decide +kernel
theorem dV_differ_13 : decode cV_differ 13 = .ok (.getfield 52, 3) := by decide +kernel
theorem dV_differ_16 : decode cV_differ 16 = .ok (.invokestatic 80, 3) := by decide +kernel
theorem dV_differ_19 : decode cV_differ 19 = .ok (.istore_n 3, 1) := by decide +kernel
theorem dV_differ_20 : decode cV_differ 20 = .ok (.iload_n 3, 1) := by decide +kernel
theorem dV_differ_21 : decode cV_differ 21 = .ok (.iconst (-1), 1) := by decide +kernel
theorem dV_differ_22 : decode cV_differ 22 = .ok (.if_icmp .ne 11, 3) := by decide +kernel
theorem dV_differ_25 : decode cV_differ 25 = .ok (.new 40, 3) := by decide +kernel
theorem dV_differ_28 : decode cV_differ 28 = .ok (.dup, 1) := by decide +kernel
theorem dV_differ_29 : decode cV_differ 29 = .ok (.invokespecial 42, 3) := by decide +kernel
theorem dV_differ_32 : decode cV_differ 32 = .ok (.athrow, 1) := by decide +kernel
theorem dV_differ_33 : decode cV_differ 33 = .ok (.iload_n 3, 1) := by decide +kernel
theorem dV_differ_34 : decode cV_differ 34 = .ok (.ireturn, 1) := by decide +kernel
theorem dV_rules_0 : decode cV_rules 0 = .ok (.aload_n 0, 1) := by decide +kernel
theorem dV_rules_1 : decode cV_rules 1 = .ok (.aload_n 0, 1) := by decide +kernel
theorem dV_rules_2 : decode cV_rules 2 = .ok (.iload_n 1, 1) := by decide +kernel
theorem dV_rules_3 : decode cV_rules 3 = .ok (.invokevirtual 64, 3) := by decide +kernel
theorem dV_rules_6 : decode cV_rules 6 = .ok (.invokevirtual 86, 3) := by decide +kernel
theorem dV_rules_9 : decode cV_rules 9 = .ok (.getfield 90, 3) := by decide +kernel
theorem dV_rules_12 : decode cV_rules 12 = .ok (.ireturn, 1) := by decide +kernel
theorem dV_rule_0 : decode cV_rule 0 = .ok (.aload_n 0, 1) := by decide +kernel
theorem dV_rule_1 : decode cV_rule 1 = .ok (.iload_n 1, 1) := by decide +kernel
theorem dV_rule_2 : decode cV_rule 2 = .ok (.invokevirtual 64, 3) := by decide +kernel
theorem dV_rule_5 : decode cV_rule 5 = .ok (.astore 4, 2) := by decide +kernel
theorem dV_rule_7 : decode cV_rule 7 = .ok (.aload_n 0, 1) := by decide +kernel
theorem dV_rule_8 : decode cV_rule 8 = .ok (.aload 4, 2) := by decide +kernel
theorem dV_rule_10 : decode cV_rule 10 = .ok (.invokevirtual 86, 3) := by decide +kernel
theorem dV_rule_13 : decode cV_rule 13 = .ok (.astore 5, 2) := by decide +kernel
theorem dV_rule_15 : decode cV_rule 15 = .ok (.iload_n 2, 1) := by decide +kernel
theorem dV_rule_16 : decode cV_rule 16 = .ok (.ifCond .lt 12, 3) := by decide +kernel
theorem dV_rule_19 : decode cV_rule 19 = .ok (.iload_n 2, 1) := by decide +kernel
theorem dV_rule_20 : decode cV_rule 20 = .ok (.aload 5, 2) := by decide +kernel
theorem dV_rule_22 : decode cV_rule 22 = .ok (.getfield 90, 3) := by decide +kernel
theorem dV_rule_25 : decode cV_rule 25 = .ok (.if_icmp .lt 11, 3) := by decide +kernel
theorem dV_rule_28 : decode cV_rule 28 = .ok (.new 95, 3) := by decide +kernel
theorem dV_rule_31 : decode cV_rule 31 = .ok (.dup, 1) := by decide +kernel
theorem dV_rule_32 : decode cV_rule 32 = .ok (.invokespecial 97, 3) := by decide +kernel
theorem dV_rule_35 : decode cV_rule 35 = .ok (.athrow, 1) := by decide +kernel
theorem dV_rule_36 : decode cV_rule 36 = .ok (.iload_n 3, 1) := by decide +kernel
theorem dV_rule_37 : decode cV_rule 37 = .ok (.ifCond .lt 8, 3) := by decide +kernel
theorem dV_rule_40 : decode cV_rule 40 = .ok (.iload_n 3, 1) := by decide +kernel
theorem dV_rule_41 : decode cV_rule 41 = .ok (.iconst 3, 1) := by decide +kernel
theorem dV_rule_42 : decode cV_rule 42 = .ok (.if_icmp .le 11, 3) := by decide +kernel
theorem dV_rule_45 : decode cV_rule 45 = .ok (.new 33, 3) := by decide +kernel
theorem dV_rule_48 : decode cV_rule 48 = .ok (.dup, 1) := by decide +kernel
theorem dV_rule_49 : decode cV_rule 49 = .ok (.invokespecial 35, 3) := by decide +kernel
theorem dV_rule_52 : decode cV_rule 52 = .ok (.athrow, 1) := by decide +kernel
theorem dV_rule_53 : decode cV_rule 53 = .ok (.iload_n 3, 1) := by decide +kernel
theorem dV_rule_54 : decode cV_rule 54 = .ok (.iconst 3, 1) := by decide +kernel
theorem dV_rule_55 : decode cV_rule 55 = .ok (.if_icmp .ne 20, 3) := by decide +kernel
theorem dV_rule_58 : decode cV_rule 58 = .ok (.aload 4, 2) := by decide +kernel
theorem dV_rule_60 : decode cV_rule 60 = .ok (.getfield 52, 3) := by decide +kernel
theorem dV_rule_63 : decode cV_rule 63 = .ok (.aload 5, 2) := by decide +kernel
theorem dV_rule_65 : decode cV_rule 65 = .ok (.getfield 98, 3) := by decide +kernel
theorem dV_rule_68 : decode cV_rule 68 = .ok (.iload_n 2, 1) := by decide +kernel
theorem dV_rule_69 : decode cV_rule 69 = .ok (.iaload, 1) := by decide +kernel
theorem dV_rule_70 : decode cV_rule 70 = .ok (.laload, 1) := by decide +kernel
theorem dV_rule_71 : decode cV_rule 71 = .ok (.invokestatic 102, 3) := by decide +kernel
theorem dV_rule_74 : decode cV_rule 74 = .ok (.ireturn, 1) := by decide +kernel
theorem dV_rule_75 : decode cV_rule 75 = .ok (.iload_n 3, 1) := by decide +kernel
theorem dV_rule_76 : decode cV_rule 76 = .ok (.aload 5, 2) := by decide +kernel
theorem dV_rule_78 : decode cV_rule 78 = .ok (.getfield 108, 3) := by decide +kernel
theorem dV_rule_81 : decode cV_rule 81 = .ok (.iload_n 2, 1) := by decide +kernel
theorem dV_rule_82 : decode cV_rule 82 = .ok (.iaload, 1) := by decide +kernel
theorem dV_rule_83 : decode cV_rule 83 = .ok (.if_icmp .ge 17, 3) := by decide +kernel
theorem dV_rule_86 : decode cV_rule 86 = .ok (.aload 5, 2) := by decide +kernel
theorem dV_rule_88 : decode cV_rule 88 = .ok (.getfield 98, 3) := by decide +kernel
theorem dV_rule_91 : decode cV_rule 91 = .ok (.iload_n 2, 1) := by decide +kernel
theorem dV_rule_92 : decode cV_rule 92 = .ok (.iaload, 1) := by decide +kernel
theorem dV_rule_93 : decode cV_rule 93 = .ok (.iload_n 3, 1) := by decide +kernel
theorem dV_rule_94 : decode cV_rule 94 = .ok (.invokestatic 111, 3) := by decide +kernel
theorem dV_rule_97 : decode cV_rule 97 = .ok (.goto 4, 3) := by decide +kernel
theorem dV_rule_100 : decode cV_rule 100 = .ok (.iconst (-1), 1) := by decide +kernel
theorem dV_rule_101 : decode cV_rule 101 = .ok (.ireturn, 1) := by decide +kernel
theorem dV_match_0 : decode cV_match 0 = .ok (.aload_n 0, 1) := by decide +kernel
theorem dV_match_1 : decode cV_match 1 = .ok (.iload_n 1, 1) := by decide +kernel
theorem dV_match_2 : decode cV_match 2 = .ok (.invokevirtual 64, 3) := by decide +kernel
theorem dV_match_5 : decode cV_match 5 = .ok (.astore_n 3, 1) := by decide +kernel
theorem dV_match_6 : decode cV_match 6 = .ok (.iload_n 2, 1) := by decide +kernel
theorem dV_match_7 : decode cV_match 7 = .ok (.invokestatic 68, 3) := by decide +kernel
theorem dV_match_10 : decode cV_match 10 = .ok (.aload_n 0, 1) := by decide +kernel
theorem dV_match_11 : decode cV_match 11 = .ok (.aload_n 3, 1) := by decide +kernel
theorem dV_match_12 : decode cV_match 12 = .ok (.invokevirtual 86, 3) := by decide +kernel
theorem dV_match_15 : decode cV_match 15 = .ok (.getfield 115, 3) := by decide +kernel
theorem dV_match_18 : decode cV_match 18 = .ok (.iload_n 2, 1) := by decide +kernel
theorem dV_match_19 : decode cV_match 19 = .ok (.iaload, 1) := by decide +kernel
theorem dV_match_20 : decode cV_match 20 = .ok (.ireturn, 1) := by decide +kernel
theorem dV_hops_0 : decode cV_hops 0 = .ok (.aload_n 0, 1) := by decide +kernel
theorem dV_hops_1 : decode cV_hops 1 = .ok (.iload_n 1, 1) := by decide +kernel
theorem dV_hops_2 : decode cV_hops 2 = .ok (.invokevirtual 64, 3) := by decide +kernel
theorem dV_hops_5 : decode cV_hops 5 = .ok (.getfield 52, 3) := by decide +kernel
theorem dV_hops_8 : decode cV_hops 8 = .ok (.astore 5, 2) := by decide +kernel
theorem dV_hops_10 : decode cV_hops 10 = .ok (.iload_n 2, 1) := by decide +kernel
theorem dV_hops_11 : decode cV_hops 11 = .ok (.invokestatic 68, 3) := by decide +kernel
theorem dV_hops_14 : decode cV_hops 14 = .ok (.iload_n 2, 1) := by decide +kernel
theorem dV_hops_15 : decode cV_hops 15 = .ok (.invokestatic 76, 3) := by decide +kernel
theorem dV_hops_18 : decode cV_hops 18 = .ok (.lstore 6, 2) := by decide +kernel
theorem dV_hops_20 : decode cV_hops 20 = .ok (.iconst 0, 1) := by decide +kernel
theorem dV_hops_21 : decode cV_hops 21 = .ok (.istore 8, 2) := by decide +kernel
theorem dV_hops_23 : decode cV_hops 23 = .ok (.iload 8, 2) := by decide +kernel
theorem dV_hops_25 : decode cV_hops 25 = .ok (.bipush 64, 2) := by decide +kernel
theorem dV_hops_27 : decode cV_hops 27 = .ok (.if_icmp .ge 47, 3) := by decide +kernel
theorem dV_hops_30 : decode cV_hops 30 = .ok (.lload 6, 2) := by decide +kernel
theorem dV_hops_32 : decode cV_hops 32 = .ok (.lload_n 3, 1) := by decide +kernel
theorem dV_hops_33 : decode cV_hops 33 = .ok (.land, 1) := by decide +kernel
theorem dV_hops_34 : decode cV_hops 34 = .ok (.lconst 0, 1) := by decide +kernel
theorem dV_hops_35 : decode cV_hops 35 = .ok (.lcmp, 1) := by decide +kernel
theorem dV_hops_36 : decode cV_hops 36 = .ok (.ifCond .eq 6, 3) := by decide +kernel
theorem dV_hops_39 : decode cV_hops 39 = .ok (.iload 8, 2) := by decide +kernel
theorem dV_hops_41 : decode cV_hops 41 = .ok (.ireturn, 1) := by decide +kernel
theorem dV_hops_42 : decode cV_hops 42 = .ok (.lload 6, 2) := by decide +kernel
theorem dV_hops_44 : decode cV_hops 44 = .ok (.aload 5, 2) := by decide +kernel
theorem dV_hops_46 : decode cV_hops 46 = .ok (.lload 6, 2) := by decide +kernel
theorem dV_hops_48 : decode cV_hops 48 = .ok (.invokestatic 72, 3) := by decide +kernel
theorem dV_hops_51 : decode cV_hops 51 = .ok (.lor, 1) := by decide +kernel
theorem dV_hops_52 : decode cV_hops 52 = .ok (.lstore 9, 2) := by decide +kernel
theorem dV_hops_54 : decode cV_hops 54 = .ok (.lload 9, 2) := by decide +kernel
theorem dV_hops_56 : decode cV_hops 56 = .ok (.lload 6, 2) := by decide +kernel
theorem dV_hops_58 : decode cV_hops 58 = .ok (.lcmp, 1) := by decide +kernel
theorem dV_hops_59 : decode cV_hops 59 = .ok (.ifCond .ne 5, 3) := by decide +kernel
theorem dV_hops_62 : decode cV_hops 62 = .ok (.iconst (-1), 1) := by decide +kernel
theorem dV_hops_63 : decode cV_hops 63 = .ok (.ireturn, 1) := by decide +kernel
theorem dV_hops_64 : decode cV_hops 64 = .ok (.lload 9, 2) := by decide +kernel
theorem dV_hops_66 : decode cV_hops 66 = .ok (.lstore 6, 2) := by decide +kernel
theorem dV_hops_68 : decode cV_hops 68 = .ok (.iinc 8 1, 3) := by decide +kernel
theorem dV_hops_71 : decode cV_hops 71 = .ok (.goto (-48), 3) := by decide +kernel
theorem dV_hops_74 : decode cV_hops 74 = .ok (.iconst (-1), 1) := by decide +kernel
theorem dV_hops_75 : decode cV_hops 75 = .ok (.ireturn, 1) := by decide +kernel
theorem dV_count_0 : decode cV_count 0 = .ok (.iload_n 1, 1) := by decide +kernel
theorem dV_count_1 : decode cV_count 1 = .ok (.ifCond .eq 16, 3) := by decide +kernel
theorem dV_count_4 : decode cV_count 4 = .ok (.iload_n 1, 1) := by decide +kernel
theorem dV_count_5 : decode cV_count 5 = .ok (.iconst 1, 1) := by decide +kernel
theorem dV_count_6 : decode cV_count 6 = .ok (.if_icmp .eq 11, 3) := by decide +kernel
theorem dV_count_9 : decode cV_count 9 = .ok (.new 33, 3) := by decide +kernel
theorem dV_count_12 : decode cV_count 12 = .ok (.dup, 1) := by decide +kernel
theorem dV_count_13 : decode cV_count 13 = .ok (.invokespecial 35, 3) := by decide +kernel
theorem dV_count_16 : decode cV_count 16 = .ok (.athrow, 1) := by decide +kernel
theorem dV_count_17 : decode cV_count 17 = .ok (.iload_n 1, 1) := by decide +kernel
theorem dV_count_18 : decode cV_count 18 = .ok (.ifCond .ne 10, 3) := by decide +kernel
theorem dV_count_21 : decode cV_count 21 = .ok (.aload_n 0, 1) := by decide +kernel
theorem dV_count_22 : decode cV_count 22 = .ok (.getfield 22, 3) := by decide +kernel
theorem dV_count_25 : decode cV_count 25 = .ok (.goto 7, 3) := by decide +kernel
theorem dV_count_28 : decode cV_count 28 = .ok (.aload_n 0, 1) := by decide +kernel
theorem dV_count_29 : decode cV_count 29 = .ok (.getfield 26, 3) := by decide +kernel
theorem dV_count_32 : decode cV_count 32 = .ok (.ireturn, 1) := by decide +kernel
theorem dV_isWellFormed_0 : decode cV_isWellFormed 0 = .ok (.iload_n 1, 1) := by decide +kernel
theorem dV_isWellFormed_1 : decode cV_isWellFormed 1 = .ok (.tableswitch 136 0 8 #[51, 51, 53, 53, 77, 77, 99, 99, 105], 51) := by decide +kernel
theorem dV_isWellFormed_52 : decode cV_isWellFormed 52 = .ok (.iconst 1, 1) := by decide +kernel
theorem dV_isWellFormed_53 : decode cV_isWellFormed 53 = .ok (.ireturn, 1) := by decide +kernel
theorem dV_isWellFormed_54 : decode cV_isWellFormed 54 = .ok (.iload_n 2, 1) := by decide +kernel
theorem dV_isWellFormed_55 : decode cV_isWellFormed 55 = .ok (.ifCond .lt 21, 3) := by decide +kernel
theorem dV_isWellFormed_58 : decode cV_isWellFormed 58 = .ok (.iload_n 2, 1) := by decide +kernel
theorem dV_isWellFormed_59 : decode cV_isWellFormed 59 = .ok (.iconst 3, 1) := by decide +kernel
theorem dV_isWellFormed_60 : decode cV_isWellFormed 60 = .ok (.if_icmp .ge 16, 3) := by decide +kernel
theorem dV_isWellFormed_63 : decode cV_isWellFormed 63 = .ok (.iload_n 3, 1) := by decide +kernel
theorem dV_isWellFormed_64 : decode cV_isWellFormed 64 = .ok (.ifCond .lt 12, 3) := by decide +kernel
theorem dV_isWellFormed_67 : decode cV_isWellFormed 67 = .ok (.iload_n 3, 1) := by decide +kernel
theorem dV_isWellFormed_68 : decode cV_isWellFormed 68 = .ok (.iconst 4, 1) := by decide +kernel
theorem dV_isWellFormed_69 : decode cV_isWellFormed 69 = .ok (.if_icmp .ge 7, 3) := by decide +kernel
theorem dV_isWellFormed_72 : decode cV_isWellFormed 72 = .ok (.iconst 1, 1) := by decide +kernel
theorem dV_isWellFormed_73 : decode cV_isWellFormed 73 = .ok (.goto 4, 3) := by decide +kernel
theorem dV_isWellFormed_76 : decode cV_isWellFormed 76 = .ok (.iconst 0, 1) := by decide +kernel
theorem dV_isWellFormed_77 : decode cV_isWellFormed 77 = .ok (.ireturn, 1) := by decide +kernel
theorem dV_isWellFormed_78 : decode cV_isWellFormed 78 = .ok (.aload_n 0, 1) := by decide +kernel
theorem dV_isWellFormed_79 : decode cV_isWellFormed 79 = .ok (.iload_n 2, 1) := by decide +kernel
theorem dV_isWellFormed_80 : decode cV_isWellFormed 80 = .ok (.invokevirtual 118, 3) := by decide +kernel
theorem dV_isWellFormed_83 : decode cV_isWellFormed 83 = .ok (.ifCond .eq 15, 3) := by decide +kernel
theorem dV_isWellFormed_86 : decode cV_isWellFormed 86 = .ok (.aload_n 0, 1) := by decide +kernel
theorem dV_isWellFormed_87 : decode cV_isWellFormed 87 = .ok (.iload_n 3, 1) := by decide +kernel
theorem dV_isWellFormed_88 : decode cV_isWellFormed 88 = .ok (.invokevirtual 118, 3) := by decide +kernel
theorem dV_isWellFormed_91 : decode cV_isWellFormed 91 = .ok (.ifCond .eq 7, 3) := by decide +kernel
theorem dV_isWellFormed_94 : decode cV_isWellFormed 94 = .ok (.iconst 1, 1) := by decide +kernel
theorem dV_isWellFormed_95 : decode cV_isWellFormed 95 = .ok (.goto 4, 3) := by decide +kernel
theorem dV_isWellFormed_98 : decode cV_isWellFormed 98 = .ok (.iconst 0, 1) := by decide +kernel
theorem dV_isWellFormed_99 : decode cV_isWellFormed 99 = .ok (.ireturn, 1) := by decide +kernel
theorem dV_isWellFormed_100 : decode cV_isWellFormed 100 = .ok (.aload_n 0, 1) := by decide +kernel
theorem dV_isWellFormed_101 : decode cV_isWellFormed 101 = .ok (.iload_n 2, 1) := by decide +kernel
theorem dV_isWellFormed_102 : decode cV_isWellFormed 102 = .ok (.invokevirtual 118, 3) := by decide +kernel
theorem dV_isWellFormed_105 : decode cV_isWellFormed 105 = .ok (.ireturn, 1) := by decide +kernel
theorem dV_isWellFormed_106 : decode cV_isWellFormed 106 = .ok (.aload_n 0, 1) := by decide +kernel
theorem dV_isWellFormed_107 : decode cV_isWellFormed 107 = .ok (.iload_n 2, 1) := by decide +kernel
theorem dV_isWellFormed_108 : decode cV_isWellFormed 108 = .ok (.invokevirtual 118, 3) := by decide +kernel
theorem dV_isWellFormed_111 : decode cV_isWellFormed 111 = .ok (.ifCond .eq 24, 3) := by decide +kernel
theorem dV_isWellFormed_114 : decode cV_isWellFormed 114 = .ok (.aload_n 0, 1) := by decide +kernel
theorem dV_isWellFormed_115 : decode cV_isWellFormed 115 = .ok (.iload_n 3, 1) := by decide +kernel
theorem dV_isWellFormed_116 : decode cV_isWellFormed 116 = .ok (.invokevirtual 118, 3) := by decide +kernel
theorem dV_isWellFormed_119 : decode cV_isWellFormed 119 = .ok (.ifCond .eq 16, 3) := by decide +kernel
theorem dV_isWellFormed_122 : decode cV_isWellFormed 122 = .ok (.aload_n 0, 1) := by decide +kernel
theorem dV_isWellFormed_123 : decode cV_isWellFormed 123 = .ok (.iload 4, 2) := by decide +kernel
theorem dV_isWellFormed_125 : decode cV_isWellFormed 125 = .ok (.invokevirtual 118, 3) := by decide +kernel
theorem dV_isWellFormed_128 : decode cV_isWellFormed 128 = .ok (.ifCond .eq 7, 3) := by decide +kernel
theorem dV_isWellFormed_131 : decode cV_isWellFormed 131 = .ok (.iconst 1, 1) := by decide +kernel
theorem dV_isWellFormed_132 : decode cV_isWellFormed 132 = .ok (.goto 4, 3) := by decide +kernel
theorem dV_isWellFormed_135 : decode cV_isWellFormed 135 = .ok (.iconst 0, 1) := by decide +kernel
theorem dV_isWellFormed_136 : decode cV_isWellFormed 136 = .ok (.ireturn, 1) := by decide +kernel
theorem dV_isWellFormed_137 : decode cV_isWellFormed 137 = .ok (.iconst 0, 1) := by decide +kernel
theorem dV_isWellFormed_138 : decode cV_isWellFormed 138 = .ok (.ireturn, 1) := by decide +kernel
theorem dV_isMade_0 : decode cV_isMade 0 = .ok (.iload_n 1, 1) := by decide +kernel
theorem dV_isMade_1 : decode cV_isMade 1 = .ok (.ifCond .lt 15, 3) := by decide +kernel
theorem dV_isMade_4 : decode cV_isMade 4 = .ok (.iload_n 1, 1) := by decide +kernel
theorem dV_isMade_5 : decode cV_isMade 5 = .ok (.aload_n 0, 1) := by decide +kernel
theorem dV_isMade_6 : decode cV_isMade 6 = .ok (.getfield 22, 3) := by decide +kernel
theorem dV_isMade_9 : decode cV_isMade 9 = .ok (.if_icmp .ge 7, 3) := by decide +kernel
theorem dV_isMade_12 : decode cV_isMade 12 = .ok (.iconst 1, 1) := by decide +kernel
theorem dV_isMade_13 : decode cV_isMade 13 = .ok (.goto 4, 3) := by decide +kernel
theorem dV_isMade_16 : decode cV_isMade 16 = .ok (.iconst 0, 1) := by decide +kernel
theorem dV_isMade_17 : decode cV_isMade 17 = .ok (.ireturn, 1) := by decide +kernel
theorem dV_find_0 : decode cV_find 0 = .ok (.aload_n 0, 1) := by decide +kernel
theorem dV_find_1 : decode cV_find 1 = .ok (.iload_n 1, 1) := by decide +kernel
theorem dV_find_2 : decode cV_find 2 = .ok (.invokevirtual 118, 3) := by decide +kernel
theorem dV_find_5 : decode cV_find 5 = .ok (.ifCond .ne 11, 3) := by decide +kernel
theorem dV_find_8 : decode cV_find 8 = .ok (.new 95, 3) := by decide +kernel
theorem dV_find_11 : decode cV_find 11 = .ok (.dup, 1) := by decide +kernel
theorem dV_find_12 : decode cV_find 12 = .ok (.invokespecial 97, 3) := by decide +kernel
theorem dV_find_15 : decode cV_find 15 = .ok (.athrow, 1) := by decide +kernel
theorem dV_find_16 : decode cV_find 16 = .ok (.aload_n 0, 1) := by decide +kernel
theorem dV_find_17 : decode cV_find 17 = .ok (.getfield 11, 3) := by decide +kernel
theorem dV_find_20 : decode cV_find 20 = .ok (.iload_n 1, 1) := by decide +kernel
theorem dV_find_21 : decode cV_find 21 = .ok (.aaload, 1) := by decide +kernel
theorem dV_find_22 : decode cV_find 22 = .ok (.areturn, 1) := by decide +kernel
theorem dV_checkPacket_0 : decode cV_checkPacket 0 = .ok (.iload_n 0, 1) := by decide +kernel
theorem dV_checkPacket_1 : decode cV_checkPacket 1 = .ok (.ifCond .lt 9, 3) := by decide +kernel
theorem dV_checkPacket_4 : decode cV_checkPacket 4 = .ok (.iload_n 0, 1) := by decide +kernel
theorem dV_checkPacket_5 : decode cV_checkPacket 5 = .ok (.bipush 64, 2) := by decide +kernel
theorem dV_checkPacket_7 : decode cV_checkPacket 7 = .ok (.if_icmp .lt 11, 3) := by decide +kernel
theorem dV_checkPacket_10 : decode cV_checkPacket 10 = .ok (.new 33, 3) := by decide +kernel
theorem dV_checkPacket_13 : decode cV_checkPacket 13 = .ok (.dup, 1) := by decide +kernel
theorem dV_checkPacket_14 : decode cV_checkPacket 14 = .ok (.invokespecial 35, 3) := by decide +kernel
theorem dV_checkPacket_17 : decode cV_checkPacket 17 = .ok (.athrow, 1) := by decide +kernel
theorem dV_checkPacket_18 : decode cV_checkPacket 18 = .ok (.return_, 1) := by decide +kernel
theorem dV_isFilter_0 : decode cV_isFilter 0 = .ok (.iload_n 1, 1) := by decide +kernel
theorem dV_isFilter_1 : decode cV_isFilter 1 = .ok (.tableswitch 136 0 8 #[51, 51, 51, 136, 53, 53, 83, 51, 93], 51) := by decide +kernel
theorem dV_isFilter_52 : decode cV_isFilter 52 = .ok (.iconst 1, 1) := by decide +kernel
theorem dV_isFilter_53 : decode cV_isFilter 53 = .ok (.ireturn, 1) := by decide +kernel
theorem dV_isFilter_54 : decode cV_isFilter 54 = .ok (.aload_n 0, 1) := by decide +kernel
theorem dV_isFilter_55 : decode cV_isFilter 55 = .ok (.getfield 11, 3) := by decide +kernel
theorem dV_isFilter_58 : decode cV_isFilter 58 = .ok (.iload_n 2, 1) := by decide +kernel
theorem dV_isFilter_59 : decode cV_isFilter 59 = .ok (.aaload, 1) := by decide +kernel
theorem dV_isFilter_60 : decode cV_isFilter 60 = .ok (.getfield 36, 3) := by decide +kernel
theorem dV_isFilter_63 : decode cV_isFilter 63 = .ok (.ifCond .eq 19, 3) := by decide +kernel
theorem dV_isFilter_66 : decode cV_isFilter 66 = .ok (.aload_n 0, 1) := by decide +kernel
theorem dV_isFilter_67 : decode cV_isFilter 67 = .ok (.getfield 11, 3) := by decide +kernel
theorem dV_isFilter_70 : decode cV_isFilter 70 = .ok (.iload_n 3, 1) := by decide +kernel
theorem dV_isFilter_71 : decode cV_isFilter 71 = .ok (.aaload, 1) := by decide +kernel
theorem dV_isFilter_72 : decode cV_isFilter 72 = .ok (.getfield 36, 3) := by decide +kernel
theorem dV_isFilter_75 : decode cV_isFilter 75 = .ok (.ifCond .eq 7, 3) := by decide +kernel
theorem dV_isFilter_78 : decode cV_isFilter 78 = .ok (.iconst 1, 1) := by decide +kernel
theorem dV_isFilter_79 : decode cV_isFilter 79 = .ok (.goto 4, 3) := by decide +kernel
theorem dV_isFilter_82 : decode cV_isFilter 82 = .ok (.iconst 0, 1) := by decide +kernel
theorem dV_isFilter_83 : decode cV_isFilter 83 = .ok (.ireturn, 1) := by decide +kernel
theorem dV_isFilter_84 : decode cV_isFilter 84 = .ok (.aload_n 0, 1) := by decide +kernel
theorem dV_isFilter_85 : decode cV_isFilter 85 = .ok (.getfield 11, 3) := by decide +kernel
theorem dV_isFilter_88 : decode cV_isFilter 88 = .ok (.iload_n 2, 1) := by decide +kernel
theorem dV_isFilter_89 : decode cV_isFilter 89 = .ok (.aaload, 1) := by decide +kernel
theorem dV_isFilter_90 : decode cV_isFilter 90 = .ok (.getfield 36, 3) := by decide +kernel
theorem dV_isFilter_93 : decode cV_isFilter 93 = .ok (.ireturn, 1) := by decide +kernel
theorem dV_isFilter_94 : decode cV_isFilter 94 = .ok (.aload_n 0, 1) := by decide +kernel
theorem dV_isFilter_95 : decode cV_isFilter 95 = .ok (.getfield 11, 3) := by decide +kernel
theorem dV_isFilter_98 : decode cV_isFilter 98 = .ok (.iload_n 2, 1) := by decide +kernel
theorem dV_isFilter_99 : decode cV_isFilter 99 = .ok (.aaload, 1) := by decide +kernel
theorem dV_isFilter_100 : decode cV_isFilter 100 = .ok (.getfield 36, 3) := by decide +kernel
theorem dV_isFilter_103 : decode cV_isFilter 103 = .ok (.ifCond .eq 32, 3) := by decide +kernel
theorem dV_isFilter_106 : decode cV_isFilter 106 = .ok (.aload_n 0, 1) := by decide +kernel
theorem dV_isFilter_107 : decode cV_isFilter 107 = .ok (.getfield 11, 3) := by decide +kernel
theorem dV_isFilter_110 : decode cV_isFilter 110 = .ok (.iload_n 3, 1) := by decide +kernel
theorem dV_isFilter_111 : decode cV_isFilter 111 = .ok (.aaload, 1) := by decide +kernel
theorem dV_isFilter_112 : decode cV_isFilter 112 = .ok (.getfield 36, 3) := by decide +kernel
theorem dV_isFilter_115 : decode cV_isFilter 115 = .ok (.ifCond .eq 20, 3) := by decide +kernel
theorem dV_isFilter_118 : decode cV_isFilter 118 = .ok (.aload_n 0, 1) := by decide +kernel
theorem dV_isFilter_119 : decode cV_isFilter 119 = .ok (.getfield 11, 3) := by decide +kernel
theorem dV_isFilter_122 : decode cV_isFilter 122 = .ok (.iload 4, 2) := by decide +kernel
theorem dV_isFilter_124 : decode cV_isFilter 124 = .ok (.aaload, 1) := by decide +kernel
theorem dV_isFilter_125 : decode cV_isFilter 125 = .ok (.getfield 36, 3) := by decide +kernel
theorem dV_isFilter_128 : decode cV_isFilter 128 = .ok (.ifCond .eq 7, 3) := by decide +kernel
theorem dV_isFilter_131 : decode cV_isFilter 131 = .ok (.iconst 1, 1) := by decide +kernel
theorem dV_isFilter_132 : decode cV_isFilter 132 = .ok (.goto 4, 3) := by decide +kernel
theorem dV_isFilter_135 : decode cV_isFilter 135 = .ok (.iconst 0, 1) := by decide +kernel
theorem dV_isFilter_136 : decode cV_isFilter 136 = .ok (.ireturn, 1) := by decide +kernel
theorem dV_isFilter_137 : decode cV_isFilter 137 = .ok (.iconst 0, 1) := by decide +kernel
theorem dV_isFilter_138 : decode cV_isFilter 138 = .ok (.ireturn, 1) := by decide +kernel
theorem dV_fillOutcomes_0 : decode cV_fillOutcomes 0 = .ok (.iconst 0, 1) := by decide +kernel
theorem dV_fillOutcomes_1 : decode cV_fillOutcomes 1 = .ok (.istore 6, 2) := by decide +kernel
theorem dV_fillOutcomes_3 : decode cV_fillOutcomes 3 = .ok (.iload 6, 2) := by decide +kernel
theorem dV_fillOutcomes_5 : decode cV_fillOutcomes 5 = .ok (.bipush 64, 2) := by decide +kernel
theorem dV_fillOutcomes_7 : decode cV_fillOutcomes 7 = .ok (.if_icmp .ge 47, 3) := by decide +kernel
theorem dV_fillOutcomes_10 : decode cV_fillOutcomes 10 = .ok (.aload_n 1, 1) := by decide +kernel
theorem dV_fillOutcomes_11 : decode cV_fillOutcomes 11 = .ok (.iload 6, 2) := by decide +kernel
theorem dV_fillOutcomes_13 : decode cV_fillOutcomes 13 = .ok (.iload_n 2, 1) := by decide +kernel
theorem dV_fillOutcomes_14 : decode cV_fillOutcomes 14 = .ok (.iconst 2, 1) := by decide +kernel
theorem dV_fillOutcomes_15 : decode cV_fillOutcomes 15 = .ok (.if_icmp .eq 8, 3) := by decide +kernel
theorem dV_fillOutcomes_18 : decode cV_fillOutcomes 18 = .ok (.iload_n 2, 1) := by decide +kernel
theorem dV_fillOutcomes_19 : decode cV_fillOutcomes 19 = .ok (.iconst 3, 1) := by decide +kernel
theorem dV_fillOutcomes_20 : decode cV_fillOutcomes 20 = .ok (.if_icmp .ne 15, 3) := by decide +kernel
theorem dV_fillOutcomes_23 : decode cV_fillOutcomes 23 = .ok (.iload_n 2, 1) := by decide +kernel
theorem dV_fillOutcomes_24 : decode cV_fillOutcomes 24 = .ok (.iload_n 3, 1) := by decide +kernel
theorem dV_fillOutcomes_25 : decode cV_fillOutcomes 25 = .ok (.iload 4, 2) := by decide +kernel
theorem dV_fillOutcomes_27 : decode cV_fillOutcomes 27 = .ok (.iload 6, 2) := by decide +kernel
theorem dV_fillOutcomes_29 : decode cV_fillOutcomes 29 = .ok (.invokestatic 122, 3) := by decide +kernel
theorem dV_fillOutcomes_32 : decode cV_fillOutcomes 32 = .ok (.goto 15, 3) := by decide +kernel
theorem dV_fillOutcomes_35 : decode cV_fillOutcomes 35 = .ok (.aload_n 0, 1) := by decide +kernel
theorem dV_fillOutcomes_36 : decode cV_fillOutcomes 36 = .ok (.iload_n 2, 1) := by decide +kernel
theorem dV_fillOutcomes_37 : decode cV_fillOutcomes 37 = .ok (.iload_n 3, 1) := by decide +kernel
theorem dV_fillOutcomes_38 : decode cV_fillOutcomes 38 = .ok (.iload 4, 2) := by decide +kernel
theorem dV_fillOutcomes_40 : decode cV_fillOutcomes 40 = .ok (.iload 5, 2) := by decide +kernel
theorem dV_fillOutcomes_42 : decode cV_fillOutcomes 42 = .ok (.iload 6, 2) := by decide +kernel
theorem dV_fillOutcomes_44 : decode cV_fillOutcomes 44 = .ok (.invokevirtual 126, 3) := by decide +kernel
theorem dV_fillOutcomes_47 : decode cV_fillOutcomes 47 = .ok (.lastore, 1) := by decide +kernel
theorem dV_fillOutcomes_48 : decode cV_fillOutcomes 48 = .ok (.iinc 6 1, 3) := by decide +kernel
theorem dV_fillOutcomes_51 : decode cV_fillOutcomes 51 = .ok (.goto (-48), 3) := by decide +kernel
theorem dV_fillOutcomes_54 : decode cV_fillOutcomes 54 = .ok (.iload_n 2, 1) := by decide +kernel
theorem dV_fillOutcomes_55 : decode cV_fillOutcomes 55 = .ok (.bipush 6, 2) := by decide +kernel
theorem dV_fillOutcomes_57 : decode cV_fillOutcomes 57 = .ok (.if_icmp .ne 7, 3) := by decide +kernel
theorem dV_fillOutcomes_60 : decode cV_fillOutcomes 60 = .ok (.aload_n 1, 1) := by decide +kernel
theorem dV_fillOutcomes_61 : decode cV_fillOutcomes 61 = .ok (.invokestatic 130, 3) := by decide +kernel
theorem dV_fillOutcomes_64 : decode cV_fillOutcomes 64 = .ok (.return_, 1) := by decide +kernel
theorem dV_fieldOutcome_0 : decode cV_fieldOutcome 0 = .ok (.iload_n 3, 1) := by decide +kernel
theorem dV_fieldOutcome_1 : decode cV_fieldOutcome 1 = .ok (.iload_n 1, 1) := by decide +kernel
theorem dV_fieldOutcome_2 : decode cV_fieldOutcome 2 = .ok (.invokestatic 111, 3) := by decide +kernel
theorem dV_fieldOutcome_5 : decode cV_fieldOutcome 5 = .ok (.istore 4, 2) := by decide +kernel
theorem dV_fieldOutcome_7 : decode cV_fieldOutcome 7 = .ok (.iload_n 0, 1) := by decide +kernel
theorem dV_fieldOutcome_8 : decode cV_fieldOutcome 8 = .ok (.iconst 3, 1) := by decide +kernel
theorem dV_fieldOutcome_9 : decode cV_fieldOutcome 9 = .ok (.if_icmp .ne 18, 3) := by decide +kernel
theorem dV_fieldOutcome_12 : decode cV_fieldOutcome 12 = .ok (.iload_n 3, 1) := by decide +kernel
theorem dV_fieldOutcome_13 : decode cV_fieldOutcome 13 = .ok (.iload_n 2, 1) := by decide +kernel
theorem dV_fieldOutcome_14 : decode cV_fieldOutcome 14 = .ok (.iload 4, 2) := by decide +kernel
theorem dV_fieldOutcome_16 : decode cV_fieldOutcome 16 = .ok (.isub, 1) := by decide +kernel
theorem dV_fieldOutcome_17 : decode cV_fieldOutcome 17 = .ok (.iload_n 1, 1) := by decide +kernel
theorem dV_fieldOutcome_18 : decode cV_fieldOutcome 18 = .ok (.invokestatic 134, 3) := by decide +kernel
theorem dV_fieldOutcome_21 : decode cV_fieldOutcome 21 = .ok (.imul, 1) := by decide +kernel
theorem dV_fieldOutcome_22 : decode cV_fieldOutcome 22 = .ok (.iadd, 1) := by decide +kernel
theorem dV_fieldOutcome_23 : decode cV_fieldOutcome 23 = .ok (.invokestatic 76, 3) := by decide +kernel
theorem dV_fieldOutcome_26 : decode cV_fieldOutcome 26 = .ok (.lreturn, 1) := by decide +kernel
theorem dV_fieldOutcome_27 : decode cV_fieldOutcome 27 = .ok (.iload 4, 2) := by decide +kernel
theorem dV_fieldOutcome_29 : decode cV_fieldOutcome 29 = .ok (.iload_n 2, 1) := by decide +kernel
theorem dV_fieldOutcome_30 : decode cV_fieldOutcome 30 = .ok (.if_icmp .ne 10, 3) := by decide +kernel
theorem dV_fieldOutcome_33 : decode cV_fieldOutcome 33 = .ok (.iload_n 3, 1) := by decide +kernel
theorem dV_fieldOutcome_34 : decode cV_fieldOutcome 34 = .ok (.invokestatic 76, 3) := by decide +kernel
theorem dV_fieldOutcome_37 : decode cV_fieldOutcome 37 = .ok (.goto 4, 3) := by decide +kernel
theorem dV_fieldOutcome_40 : decode cV_fieldOutcome 40 = .ok (.lconst 0, 1) := by decide +kernel
theorem dV_fieldOutcome_41 : decode cV_fieldOutcome 41 = .ok (.lreturn, 1) := by decide +kernel
theorem dV_joinedOutcome_0 : decode cV_joinedOutcome 0 = .ok (.iload_n 1, 1) := by decide +kernel
theorem dV_joinedOutcome_1 : decode cV_joinedOutcome 1 = .ok (.tableswitch 156 1 8 #[47, 156, 156, 53, 69, 89, 103, 125], 47) := by decide +kernel
theorem dV_joinedOutcome_48 : decode cV_joinedOutcome 48 = .ok (.iload 5, 2) := by decide +kernel
theorem dV_joinedOutcome_50 : decode cV_joinedOutcome 50 = .ok (.invokestatic 76, 3) := by decide +kernel
theorem dV_joinedOutcome_53 : decode cV_joinedOutcome 53 = .ok (.lreturn, 1) := by decide +kernel
theorem dV_joinedOutcome_54 : decode cV_joinedOutcome 54 = .ok (.aload_n 0, 1) := by decide +kernel
theorem dV_joinedOutcome_55 : decode cV_joinedOutcome 55 = .ok (.iload_n 2, 1) := by decide +kernel
theorem dV_joinedOutcome_56 : decode cV_joinedOutcome 56 = .ok (.iload 5, 2) := by decide +kernel
theorem dV_joinedOutcome_58 : decode cV_joinedOutcome 58 = .ok (.invokevirtual 138, 3) := by decide +kernel
theorem dV_joinedOutcome_61 : decode cV_joinedOutcome 61 = .ok (.aload_n 0, 1) := by decide +kernel
theorem dV_joinedOutcome_62 : decode cV_joinedOutcome 62 = .ok (.iload_n 3, 1) := by decide +kernel
theorem dV_joinedOutcome_63 : decode cV_joinedOutcome 63 = .ok (.iload 5, 2) := by decide +kernel
theorem dV_joinedOutcome_65 : decode cV_joinedOutcome 65 = .ok (.invokevirtual 138, 3) := by decide +kernel
theorem dV_joinedOutcome_68 : decode cV_joinedOutcome 68 = .ok (.lor, 1) := by decide +kernel
theorem dV_joinedOutcome_69 : decode cV_joinedOutcome 69 = .ok (.lreturn, 1) := by decide +kernel
theorem dV_joinedOutcome_70 : decode cV_joinedOutcome 70 = .ok (.aload_n 0, 1) := by decide +kernel
theorem dV_joinedOutcome_71 : decode cV_joinedOutcome 71 = .ok (.getfield 11, 3) := by decide +kernel
theorem dV_joinedOutcome_74 : decode cV_joinedOutcome 74 = .ok (.iload_n 3, 1) := by decide +kernel
theorem dV_joinedOutcome_75 : decode cV_joinedOutcome 75 = .ok (.aaload, 1) := by decide +kernel
theorem dV_joinedOutcome_76 : decode cV_joinedOutcome 76 = .ok (.getfield 52, 3) := by decide +kernel
theorem dV_joinedOutcome_79 : decode cV_joinedOutcome 79 = .ok (.aload_n 0, 1) := by decide +kernel
theorem dV_joinedOutcome_80 : decode cV_joinedOutcome 80 = .ok (.iload_n 2, 1) := by decide +kernel
theorem dV_joinedOutcome_81 : decode cV_joinedOutcome 81 = .ok (.iload 5, 2) := by decide +kernel
theorem dV_joinedOutcome_83 : decode cV_joinedOutcome 83 = .ok (.invokevirtual 138, 3) := by decide +kernel
theorem dV_joinedOutcome_86 : decode cV_joinedOutcome 86 = .ok (.invokestatic 72, 3) := by decide +kernel
theorem dV_joinedOutcome_89 : decode cV_joinedOutcome 89 = .ok (.lreturn, 1) := by decide +kernel
theorem dV_joinedOutcome_90 : decode cV_joinedOutcome 90 = .ok (.iload 5, 2) := by decide +kernel
theorem dV_joinedOutcome_92 : decode cV_joinedOutcome 92 = .ok (.invokestatic 76, 3) := by decide +kernel
theorem dV_joinedOutcome_95 : decode cV_joinedOutcome 95 = .ok (.aload_n 0, 1) := by decide +kernel
theorem dV_joinedOutcome_96 : decode cV_joinedOutcome 96 = .ok (.iload_n 2, 1) := by decide +kernel
theorem dV_joinedOutcome_97 : decode cV_joinedOutcome 97 = .ok (.iload 5, 2) := by decide +kernel
theorem dV_joinedOutcome_99 : decode cV_joinedOutcome 99 = .ok (.invokevirtual 138, 3) := by decide +kernel
theorem dV_joinedOutcome_102 : decode cV_joinedOutcome 102 = .ok (.lor, 1) := by decide +kernel
theorem dV_joinedOutcome_103 : decode cV_joinedOutcome 103 = .ok (.lreturn, 1) := by decide +kernel
theorem dV_joinedOutcome_104 : decode cV_joinedOutcome 104 = .ok (.aload_n 0, 1) := by decide +kernel
theorem dV_joinedOutcome_105 : decode cV_joinedOutcome 105 = .ok (.iload_n 2, 1) := by decide +kernel
theorem dV_joinedOutcome_106 : decode cV_joinedOutcome 106 = .ok (.iload 5, 2) := by decide +kernel
theorem dV_joinedOutcome_108 : decode cV_joinedOutcome 108 = .ok (.invokevirtual 138, 3) := by decide +kernel
theorem dV_joinedOutcome_111 : decode cV_joinedOutcome 111 = .ok (.lconst 0, 1) := by decide +kernel
theorem dV_joinedOutcome_112 : decode cV_joinedOutcome 112 = .ok (.lcmp, 1) := by decide +kernel
theorem dV_joinedOutcome_113 : decode cV_joinedOutcome 113 = .ok (.ifCond .ne 11, 3) := by decide +kernel
theorem dV_joinedOutcome_116 : decode cV_joinedOutcome 116 = .ok (.iload 5, 2) := by decide +kernel
theorem dV_joinedOutcome_118 : decode cV_joinedOutcome 118 = .ok (.invokestatic 76, 3) := by decide +kernel
theorem dV_joinedOutcome_121 : decode cV_joinedOutcome 121 = .ok (.goto 4, 3) := by decide +kernel
theorem dV_joinedOutcome_124 : decode cV_joinedOutcome 124 = .ok (.lconst 0, 1) := by decide +kernel
theorem dV_joinedOutcome_125 : decode cV_joinedOutcome 125 = .ok (.lreturn, 1) := by decide +kernel
theorem dV_joinedOutcome_126 : decode cV_joinedOutcome 126 = .ok (.aload_n 0, 1) := by decide +kernel
theorem dV_joinedOutcome_127 : decode cV_joinedOutcome 127 = .ok (.iload_n 2, 1) := by decide +kernel
theorem dV_joinedOutcome_128 : decode cV_joinedOutcome 128 = .ok (.iload 5, 2) := by decide +kernel
theorem dV_joinedOutcome_130 : decode cV_joinedOutcome 130 = .ok (.invokevirtual 138, 3) := by decide +kernel
theorem dV_joinedOutcome_133 : decode cV_joinedOutcome 133 = .ok (.lconst 0, 1) := by decide +kernel
theorem dV_joinedOutcome_134 : decode cV_joinedOutcome 134 = .ok (.lcmp, 1) := by decide +kernel
theorem dV_joinedOutcome_135 : decode cV_joinedOutcome 135 = .ok (.ifCond .eq 13, 3) := by decide +kernel
theorem dV_joinedOutcome_138 : decode cV_joinedOutcome 138 = .ok (.aload_n 0, 1) := by decide +kernel
theorem dV_joinedOutcome_139 : decode cV_joinedOutcome 139 = .ok (.iload_n 3, 1) := by decide +kernel
theorem dV_joinedOutcome_140 : decode cV_joinedOutcome 140 = .ok (.iload 5, 2) := by decide +kernel
theorem dV_joinedOutcome_142 : decode cV_joinedOutcome 142 = .ok (.invokevirtual 138, 3) := by decide +kernel
theorem dV_joinedOutcome_145 : decode cV_joinedOutcome 145 = .ok (.goto 11, 3) := by decide +kernel
theorem dV_joinedOutcome_148 : decode cV_joinedOutcome 148 = .ok (.aload_n 0, 1) := by decide +kernel
theorem dV_joinedOutcome_149 : decode cV_joinedOutcome 149 = .ok (.iload 4, 2) := by decide +kernel
theorem dV_joinedOutcome_151 : decode cV_joinedOutcome 151 = .ok (.iload 5, 2) := by decide +kernel
theorem dV_joinedOutcome_153 : decode cV_joinedOutcome 153 = .ok (.invokevirtual 138, 3) := by decide +kernel
theorem dV_joinedOutcome_156 : decode cV_joinedOutcome 156 = .ok (.lreturn, 1) := by decide +kernel
theorem dV_joinedOutcome_157 : decode cV_joinedOutcome 157 = .ok (.lconst 0, 1) := by decide +kernel
theorem dV_joinedOutcome_158 : decode cV_joinedOutcome 158 = .ok (.lreturn, 1) := by decide +kernel
theorem dV_given_0 : decode cV_given 0 = .ok (.aload_n 0, 1) := by decide +kernel
theorem dV_given_1 : decode cV_given 1 = .ok (.getfield 11, 3) := by decide +kernel
theorem dV_given_4 : decode cV_given 4 = .ok (.iload_n 1, 1) := by decide +kernel
theorem dV_given_5 : decode cV_given 5 = .ok (.aaload, 1) := by decide +kernel
theorem dV_given_6 : decode cV_given 6 = .ok (.getfield 52, 3) := by decide +kernel
theorem dV_given_9 : decode cV_given 9 = .ok (.iload_n 2, 1) := by decide +kernel
theorem dV_given_10 : decode cV_given 10 = .ok (.laload, 1) := by decide +kernel
theorem dV_given_11 : decode cV_given 11 = .ok (.lreturn, 1) := by decide +kernel
theorem dV_closeOverSteps_0 : decode cV_closeOverSteps 0 = .ok (.iconst 0, 1) := by decide +kernel
theorem dV_closeOverSteps_1 : decode cV_closeOverSteps 1 = .ok (.istore_n 1, 1) := by decide +kernel
theorem dV_closeOverSteps_2 : decode cV_closeOverSteps 2 = .ok (.iload_n 1, 1) := by decide +kernel
theorem dV_closeOverSteps_3 : decode cV_closeOverSteps 3 = .ok (.bipush 64, 2) := by decide +kernel
theorem dV_closeOverSteps_5 : decode cV_closeOverSteps 5 = .ok (.if_icmp .ge 42, 3) := by decide +kernel
theorem dV_closeOverSteps_8 : decode cV_closeOverSteps 8 = .ok (.iconst 0, 1) := by decide +kernel
theorem dV_closeOverSteps_9 : decode cV_closeOverSteps 9 = .ok (.istore_n 2, 1) := by decide +kernel
theorem dV_closeOverSteps_10 : decode cV_closeOverSteps 10 = .ok (.iload_n 2, 1) := by decide +kernel
theorem dV_closeOverSteps_11 : decode cV_closeOverSteps 11 = .ok (.bipush 64, 2) := by decide +kernel
theorem dV_closeOverSteps_13 : decode cV_closeOverSteps 13 = .ok (.if_icmp .ge 28, 3) := by decide +kernel
theorem dV_closeOverSteps_16 : decode cV_closeOverSteps 16 = .ok (.aload_n 0, 1) := by decide +kernel
theorem dV_closeOverSteps_17 : decode cV_closeOverSteps 17 = .ok (.iload_n 2, 1) := by decide +kernel
theorem dV_closeOverSteps_18 : decode cV_closeOverSteps 18 = .ok (.laload, 1) := by decide +kernel
theorem dV_closeOverSteps_19 : decode cV_closeOverSteps 19 = .ok (.iload_n 1, 1) := by decide +kernel
theorem dV_closeOverSteps_20 : decode cV_closeOverSteps 20 = .ok (.invokestatic 142, 3) := by decide +kernel
theorem dV_closeOverSteps_23 : decode cV_closeOverSteps 23 = .ok (.ifCond .eq 12, 3) := by decide +kernel
theorem dV_closeOverSteps_26 : decode cV_closeOverSteps 26 = .ok (.aload_n 0, 1) := by decide +kernel
theorem dV_closeOverSteps_27 : decode cV_closeOverSteps 27 = .ok (.iload_n 2, 1) := by decide +kernel
theorem dV_closeOverSteps_28 : decode cV_closeOverSteps 28 = .ok (.dup2, 1) := by decide +kernel
theorem dV_closeOverSteps_29 : decode cV_closeOverSteps 29 = .ok (.laload, 1) := by decide +kernel
theorem dV_closeOverSteps_30 : decode cV_closeOverSteps 30 = .ok (.aload_n 0, 1) := by decide +kernel
theorem dV_closeOverSteps_31 : decode cV_closeOverSteps 31 = .ok (.iload_n 1, 1) := by decide +kernel
theorem dV_closeOverSteps_32 : decode cV_closeOverSteps 32 = .ok (.laload, 1) := by decide +kernel
theorem dV_closeOverSteps_33 : decode cV_closeOverSteps 33 = .ok (.lor, 1) := by decide +kernel
theorem dV_closeOverSteps_34 : decode cV_closeOverSteps 34 = .ok (.lastore, 1) := by decide +kernel
theorem dV_closeOverSteps_35 : decode cV_closeOverSteps 35 = .ok (.iinc 2 1, 3) := by decide +kernel
theorem dV_closeOverSteps_38 : decode cV_closeOverSteps 38 = .ok (.goto (-28), 3) := by decide +kernel
theorem dV_closeOverSteps_41 : decode cV_closeOverSteps 41 = .ok (.iinc 1 1, 3) := by decide +kernel
theorem dV_closeOverSteps_44 : decode cV_closeOverSteps 44 = .ok (.goto (-42), 3) := by decide +kernel
theorem dV_closeOverSteps_47 : decode cV_closeOverSteps 47 = .ok (.return_, 1) := by decide +kernel
theorem dV_keep_0 : decode cV_keep 0 = .ok (.aload_n 0, 1) := by decide +kernel
theorem dV_keep_1 : decode cV_keep 1 = .ok (.aload_n 1, 1) := by decide +kernel
theorem dV_keep_2 : decode cV_keep 2 = .ok (.getfield 52, 3) := by decide +kernel
theorem dV_keep_5 : decode cV_keep 5 = .ok (.invokevirtual 146, 3) := by decide +kernel
theorem dV_keep_8 : decode cV_keep 8 = .ok (.ifCond .eq 13, 3) := by decide +kernel
theorem dV_keep_11 : decode cV_keep 11 = .ok (.aload_n 0, 1) := by decide +kernel
theorem dV_keep_12 : decode cV_keep 12 = .ok (.dup, 1) := by decide +kernel
theorem dV_keep_13 : decode cV_keep 13 = .ok (.getfield 26, 3) := by decide +kernel
theorem dV_keep_16 : decode cV_keep 16 = .ok (.iconst 1, 1) := by decide +kernel
theorem dV_keep_17 : decode cV_keep 17 = .ok (.iadd, 1) := by decide +kernel
theorem dV_keep_18 : decode cV_keep 18 = .ok (.putfield 26, 3) := by decide +kernel
theorem dV_keep_21 : decode cV_keep 21 = .ok (.aload_n 0, 1) := by decide +kernel
theorem dV_keep_22 : decode cV_keep 22 = .ok (.getfield 22, 3) := by decide +kernel
theorem dV_keep_25 : decode cV_keep 25 = .ok (.istore_n 2, 1) := by decide +kernel
theorem dV_keep_26 : decode cV_keep 26 = .ok (.aload_n 0, 1) := by decide +kernel
theorem dV_keep_27 : decode cV_keep 27 = .ok (.getfield 11, 3) := by decide +kernel
theorem dV_keep_30 : decode cV_keep 30 = .ok (.iload_n 2, 1) := by decide +kernel
theorem dV_keep_31 : decode cV_keep 31 = .ok (.aload_n 1, 1) := by decide +kernel
theorem dV_keep_32 : decode cV_keep 32 = .ok (.aastore, 1) := by decide +kernel
theorem dV_keep_33 : decode cV_keep 33 = .ok (.aload_n 0, 1) := by decide +kernel
theorem dV_keep_34 : decode cV_keep 34 = .ok (.dup, 1) := by decide +kernel
theorem dV_keep_35 : decode cV_keep 35 = .ok (.getfield 22, 3) := by decide +kernel
theorem dV_keep_38 : decode cV_keep 38 = .ok (.iconst 1, 1) := by decide +kernel
theorem dV_keep_39 : decode cV_keep 39 = .ok (.iadd, 1) := by decide +kernel
theorem dV_keep_40 : decode cV_keep 40 = .ok (.putfield 22, 3) := by decide +kernel
theorem dV_keep_43 : decode cV_keep 43 = .ok (.iload_n 2, 1) := by decide +kernel
theorem dV_keep_44 : decode cV_keep 44 = .ok (.ireturn, 1) := by decide +kernel
theorem dV_isNew_0 : decode cV_isNew 0 = .ok (.iconst 0, 1) := by decide +kernel
theorem dV_isNew_1 : decode cV_isNew 1 = .ok (.istore_n 2, 1) := by decide +kernel
theorem dV_isNew_2 : decode cV_isNew 2 = .ok (.iload_n 2, 1) := by decide +kernel
theorem dV_isNew_3 : decode cV_isNew 3 = .ok (.aload_n 0, 1) := by decide +kernel
theorem dV_isNew_4 : decode cV_isNew 4 = .ok (.getfield 22, 3) := by decide +kernel
theorem dV_isNew_7 : decode cV_isNew 7 = .ok (.if_icmp .ge 28, 3) := by decide +kernel
theorem dV_isNew_10 : decode cV_isNew 10 = .ok (.aload_n 0, 1) := by decide +kernel
theorem dV_isNew_11 : decode cV_isNew 11 = .ok (.getfield 11, 3) := by decide +kernel
theorem dV_isNew_14 : decode cV_isNew 14 = .ok (.iload_n 2, 1) := by decide +kernel
theorem dV_isNew_15 : decode cV_isNew 15 = .ok (.aaload, 1) := by decide +kernel
theorem dV_isNew_16 : decode cV_isNew 16 = .ok (.getfield 52, 3) := by decide +kernel
theorem dV_isNew_19 : decode cV_isNew 19 = .ok (.aload_n 1, 1) := by decide +kernel
theorem dV_isNew_20 : decode cV_isNew 20 = .ok (.invokestatic 80, 3) := by decide +kernel
theorem dV_isNew_23 : decode cV_isNew 23 = .ok (.iconst (-1), 1) := by decide +kernel
theorem dV_isNew_24 : decode cV_isNew 24 = .ok (.if_icmp .ne 5, 3) := by decide +kernel
theorem dV_isNew_27 : decode cV_isNew 27 = .ok (.iconst 0, 1) := by decide +kernel
theorem dV_isNew_28 : decode cV_isNew 28 = .ok (.ireturn, 1) := by decide +kernel
theorem dV_isNew_29 : decode cV_isNew 29 = .ok (.iinc 2 1, 3) := by decide +kernel
theorem dV_isNew_32 : decode cV_isNew 32 = .ok (.goto (-30), 3) := by decide +kernel
theorem dV_isNew_35 : decode cV_isNew 35 = .ok (.iconst 1, 1) := by decide +kernel
theorem dV_isNew_36 : decode cV_isNew 36 = .ok (.ireturn, 1) := by decide +kernel
theorem dV_tableOf_0 : decode cV_tableOf 0 = .ok (.aload_n 1, 1) := by decide +kernel
theorem dV_tableOf_1 : decode cV_tableOf 1 = .ok (.getfield 150, 3) := by decide +kernel
theorem dV_tableOf_4 : decode cV_tableOf 4 = .ok (.ifnonnull 35, 3) := by decide +kernel
theorem dV_tableOf_7 : decode cV_tableOf 7 = .ok (.aload_n 0, 1) := by decide +kernel
theorem dV_tableOf_8 : decode cV_tableOf 8 = .ok (.getfield 18, 3) := by decide +kernel
theorem dV_tableOf_11 : decode cV_tableOf 11 = .ok (.aload_n 1, 1) := by decide +kernel
theorem dV_tableOf_12 : decode cV_tableOf 12 = .ok (.getfield 52, 3) := by decide +kernel
theorem dV_tableOf_15 : decode cV_tableOf 15 = .ok (.invokevirtual 154, 3) := by decide +kernel
theorem dV_tableOf_18 : decode cV_tableOf 18 = .ok (.new 91, 3) := by decide +kernel
theorem dV_tableOf_21 : decode cV_tableOf 21 = .ok (.dup, 1) := by decide +kernel
theorem dV_tableOf_22 : decode cV_tableOf 22 = .ok (.invokespecial 157, 3) := by decide +kernel
theorem dV_tableOf_25 : decode cV_tableOf 25 = .ok (.astore_n 2, 1) := by decide +kernel
theorem dV_tableOf_26 : decode cV_tableOf 26 = .ok (.aload_n 2, 1) := by decide +kernel
theorem dV_tableOf_27 : decode cV_tableOf 27 = .ok (.aload_n 0, 1) := by decide +kernel
theorem dV_tableOf_28 : decode cV_tableOf 28 = .ok (.getfield 18, 3) := by decide +kernel
theorem dV_tableOf_31 : decode cV_tableOf 31 = .ok (.invokevirtual 158, 3) := by decide +kernel
theorem dV_tableOf_34 : decode cV_tableOf 34 = .ok (.aload_n 1, 1) := by decide +kernel
theorem dV_tableOf_35 : decode cV_tableOf 35 = .ok (.aload_n 2, 1) := by decide +kernel
theorem dV_tableOf_36 : decode cV_tableOf 36 = .ok (.putfield 150, 3) := by decide +kernel
theorem dV_tableOf_39 : decode cV_tableOf 39 = .ok (.aload_n 1, 1) := by decide +kernel
theorem dV_tableOf_40 : decode cV_tableOf 40 = .ok (.getfield 150, 3) := by decide +kernel
theorem dV_tableOf_43 : decode cV_tableOf 43 = .ok (.areturn, 1) := by decide +kernel
theorem dV_givenFor_0 : decode cV_givenFor 0 = .ok (.lconst 0, 1) := by decide +kernel
theorem dV_givenFor_1 : decode cV_givenFor 1 = .ok (.lstore_n 3, 1) := by decide +kernel
theorem dV_givenFor_2 : decode cV_givenFor 2 = .ok (.iconst 0, 1) := by decide +kernel
theorem dV_givenFor_3 : decode cV_givenFor 3 = .ok (.istore 5, 2) := by decide +kernel
theorem dV_givenFor_5 : decode cV_givenFor 5 = .ok (.iload 5, 2) := by decide +kernel
theorem dV_givenFor_7 : decode cV_givenFor 7 = .ok (.bipush 64, 2) := by decide +kernel
theorem dV_givenFor_9 : decode cV_givenFor 9 = .ok (.if_icmp .ge 25, 3) := by decide +kernel
theorem dV_givenFor_12 : decode cV_givenFor 12 = .ok (.lload_n 1, 1) := by decide +kernel
theorem dV_givenFor_13 : decode cV_givenFor 13 = .ok (.iload 5, 2) := by decide +kernel
theorem dV_givenFor_15 : decode cV_givenFor 15 = .ok (.invokestatic 142, 3) := by decide +kernel
theorem dV_givenFor_18 : decode cV_givenFor 18 = .ok (.ifCond .eq 10, 3) := by decide +kernel
theorem dV_givenFor_21 : decode cV_givenFor 21 = .ok (.lload_n 3, 1) := by decide +kernel
theorem dV_givenFor_22 : decode cV_givenFor 22 = .ok (.aload_n 0, 1) := by decide +kernel
theorem dV_givenFor_23 : decode cV_givenFor 23 = .ok (.iload 5, 2) := by decide +kernel
theorem dV_givenFor_25 : decode cV_givenFor 25 = .ok (.laload, 1) := by decide +kernel
theorem dV_givenFor_26 : decode cV_givenFor 26 = .ok (.lor, 1) := by decide +kernel
theorem dV_givenFor_27 : decode cV_givenFor 27 = .ok (.lstore_n 3, 1) := by decide +kernel
theorem dV_givenFor_28 : decode cV_givenFor 28 = .ok (.iinc 5 1, 3) := by decide +kernel
theorem dV_givenFor_31 : decode cV_givenFor 31 = .ok (.goto (-26), 3) := by decide +kernel
theorem dV_givenFor_34 : decode cV_givenFor 34 = .ok (.lload_n 3, 1) := by decide +kernel
theorem dV_givenFor_35 : decode cV_givenFor 35 = .ok (.lreturn, 1) := by decide +kernel
theorem dV_leastDifference_0 : decode cV_leastDifference 0 = .ok (.iconst 0, 1) := by decide +kernel
theorem dV_leastDifference_1 : decode cV_leastDifference 1 = .ok (.istore_n 2, 1) := by decide +kernel
theorem dV_leastDifference_2 : decode cV_leastDifference 2 = .ok (.iload_n 2, 1) := by decide +kernel
theorem dV_leastDifference_3 : decode cV_leastDifference 3 = .ok (.bipush 64, 2) := by decide +kernel
theorem dV_leastDifference_5 : decode cV_leastDifference 5 = .ok (.if_icmp .ge 21, 3) := by decide +kernel
theorem dV_leastDifference_8 : decode cV_leastDifference 8 = .ok (.aload_n 0, 1) := by decide +kernel
theorem dV_leastDifference_9 : decode cV_leastDifference 9 = .ok (.iload_n 2, 1) := by decide +kernel
theorem dV_leastDifference_10 : decode cV_leastDifference 10 = .ok (.laload, 1) := by decide +kernel
theorem dV_leastDifference_11 : decode cV_leastDifference 11 = .ok (.aload_n 1, 1) := by decide +kernel
theorem dV_leastDifference_12 : decode cV_leastDifference 12 = .ok (.iload_n 2, 1) := by decide +kernel
theorem dV_leastDifference_13 : decode cV_leastDifference 13 = .ok (.laload, 1) := by decide +kernel
theorem dV_leastDifference_14 : decode cV_leastDifference 14 = .ok (.lcmp, 1) := by decide +kernel
theorem dV_leastDifference_15 : decode cV_leastDifference 15 = .ok (.ifCond .eq 5, 3) := by decide +kernel
theorem dV_leastDifference_18 : decode cV_leastDifference 18 = .ok (.iload_n 2, 1) := by decide +kernel
theorem dV_leastDifference_19 : decode cV_leastDifference 19 = .ok (.ireturn, 1) := by decide +kernel
theorem dV_leastDifference_20 : decode cV_leastDifference 20 = .ok (.iinc 2 1, 3) := by decide +kernel
theorem dV_leastDifference_23 : decode cV_leastDifference 23 = .ok (.goto (-21), 3) := by decide +kernel
theorem dV_leastDifference_26 : decode cV_leastDifference 26 = .ok (.iconst (-1), 1) := by decide +kernel
theorem dV_leastDifference_27 : decode cV_leastDifference 27 = .ok (.ireturn, 1) := by decide +kernel
theorem dV_only_0 : decode cV_only 0 = .ok (.lconst 1, 1) := by decide +kernel
theorem dV_only_1 : decode cV_only 1 = .ok (.iload_n 0, 1) := by decide +kernel
theorem dV_only_2 : decode cV_only 2 = .ok (.lshl, 1) := by decide +kernel
theorem dV_only_3 : decode cV_only 3 = .ok (.lreturn, 1) := by decide +kernel
theorem dV_has_0 : decode cV_has 0 = .ok (.lload_n 0, 1) := by decide +kernel
theorem dV_has_1 : decode cV_has 1 = .ok (.iload_n 2, 1) := by decide +kernel
theorem dV_has_2 : decode cV_has 2 = .ok (.lushr, 1) := by decide +kernel
theorem dV_has_3 : decode cV_has 3 = .ok (.lconst 1, 1) := by decide +kernel
theorem dV_has_4 : decode cV_has 4 = .ok (.land, 1) := by decide +kernel
theorem dV_has_5 : decode cV_has 5 = .ok (.lconst 0, 1) := by decide +kernel
theorem dV_has_6 : decode cV_has 6 = .ok (.lcmp, 1) := by decide +kernel
theorem dV_has_7 : decode cV_has 7 = .ok (.ifCond .eq 7, 3) := by decide +kernel
theorem dV_has_10 : decode cV_has 10 = .ok (.iconst 1, 1) := by decide +kernel
theorem dV_has_11 : decode cV_has 11 = .ok (.goto 4, 3) := by decide +kernel
theorem dV_has_14 : decode cV_has 14 = .ok (.iconst 0, 1) := by decide +kernel
theorem dV_has_15 : decode cV_has 15 = .ok (.ireturn, 1) := by decide +kernel
theorem dV_shiftOf_0 : decode cV_shiftOf 0 = .ok (.iconst 2, 1) := by decide +kernel
theorem dV_shiftOf_1 : decode cV_shiftOf 1 = .ok (.iconst 2, 1) := by decide +kernel
theorem dV_shiftOf_2 : decode cV_shiftOf 2 = .ok (.iload_n 0, 1) := by decide +kernel
theorem dV_shiftOf_3 : decode cV_shiftOf 3 = .ok (.isub, 1) := by decide +kernel
theorem dV_shiftOf_4 : decode cV_shiftOf 4 = .ok (.imul, 1) := by decide +kernel
theorem dV_shiftOf_5 : decode cV_shiftOf 5 = .ok (.ireturn, 1) := by decide +kernel
theorem dV_weightOf_0 : decode cV_weightOf 0 = .ok (.iconst 1, 1) := by decide +kernel
theorem dV_weightOf_1 : decode cV_weightOf 1 = .ok (.iload_n 0, 1) := by decide +kernel
theorem dV_weightOf_2 : decode cV_weightOf 2 = .ok (.invokestatic 162, 3) := by decide +kernel
theorem dV_weightOf_5 : decode cV_weightOf 5 = .ok (.ishl, 1) := by decide +kernel
theorem dV_weightOf_6 : decode cV_weightOf 6 = .ok (.ireturn, 1) := by decide +kernel
theorem dV_valueOf_0 : decode cV_valueOf 0 = .ok (.iload_n 0, 1) := by decide +kernel
theorem dV_valueOf_1 : decode cV_valueOf 1 = .ok (.iload_n 1, 1) := by decide +kernel
theorem dV_valueOf_2 : decode cV_valueOf 2 = .ok (.invokestatic 162, 3) := by decide +kernel
theorem dV_valueOf_5 : decode cV_valueOf 5 = .ok (.ishr, 1) := by decide +kernel
theorem dV_valueOf_6 : decode cV_valueOf 6 = .ok (.iconst 3, 1) := by decide +kernel
theorem dV_valueOf_7 : decode cV_valueOf 7 = .ok (.iand, 1) := by decide +kernel
theorem dV_valueOf_8 : decode cV_valueOf 8 = .ok (.ireturn, 1) := by decide +kernel
end
section
theorem dM_init_0 : decode cM_init 0 = .ok (.aload_n 0, 1) := by decide +kernel
theorem dM_init_1 : decode cM_init 1 = .ok (.invokespecial 1, 3) := by decide +kernel
theorem dM_init_4 : decode cM_init 4 = .ok (.aload_n 0, 1) := by decide +kernel
theorem dM_init_5 : decode cM_init 5 = .ok (.sipush 3200, 3) := by decide +kernel
theorem dM_init_8 : decode cM_init 8 = .ok (.newarray .long, 2) := by decide +kernel
theorem dM_init_10 : decode cM_init 10 = .ok (.putfield 7, 3) := by decide +kernel
theorem dM_init_13 : decode cM_init 13 = .ok (.aload_n 0, 1) := by decide +kernel
theorem dM_init_14 : decode cM_init 14 = .ok (.bipush 50, 2) := by decide +kernel
theorem dM_init_16 : decode cM_init 16 = .ok (.newarray .boolean, 2) := by decide +kernel
theorem dM_init_18 : decode cM_init 18 = .ok (.putfield 13, 3) := by decide +kernel
theorem dM_init_21 : decode cM_init 21 = .ok (.aload_n 0, 1) := by decide +kernel
theorem dM_init_22 : decode cM_init 22 = .ok (.bipush 64, 2) := by decide +kernel
theorem dM_init_24 : decode cM_init 24 = .ok (.newarray .int, 2) := by decide +kernel
theorem dM_init_26 : decode cM_init 26 = .ok (.putfield 17, 3) := by decide +kernel
theorem dM_init_29 : decode cM_init 29 = .ok (.aload_n 0, 1) := by decide +kernel
theorem dM_init_30 : decode cM_init 30 = .ok (.bipush 64, 2) := by decide +kernel
theorem dM_init_32 : decode cM_init 32 = .ok (.newarray .int, 2) := by decide +kernel
theorem dM_init_34 : decode cM_init 34 = .ok (.putfield 21, 3) := by decide +kernel
theorem dM_init_37 : decode cM_init 37 = .ok (.return_, 1) := by decide +kernel
theorem dM_thrown_0 : decode cM_thrown 0 = .ok (.aload_n 0, 1) := by decide +kernel
theorem dM_thrown_1 : decode cM_thrown 1 = .ok (.getfield 24, 3) := by decide +kernel
theorem dM_thrown_4 : decode cM_thrown 4 = .ok (.ireturn, 1) := by decide +kernel
theorem dM_raise_0 : decode cM_raise 0 = .ok (.aload_n 0, 1) := by decide +kernel
theorem dM_raise_1 : decode cM_raise 1 = .ok (.iload_n 1, 1) := by decide +kernel
theorem dM_raise_2 : decode cM_raise 2 = .ok (.putfield 24, 3) := by decide +kernel
theorem dM_raise_5 : decode cM_raise 5 = .ok (.iconst 0, 1) := by decide +kernel
theorem dM_raise_6 : decode cM_raise 6 = .ok (.ireturn, 1) := by decide +kernel
theorem dM_in_0 : decode cM_in 0 = .ok (.iload_n 0, 1) := by decide +kernel
theorem dM_in_1 : decode cM_in 1 = .ok (.iload_n 1, 1) := by decide +kernel
theorem dM_in_2 : decode cM_in 2 = .ok (.if_icmp .lt 12, 3) := by decide +kernel
theorem dM_in_5 : decode cM_in 5 = .ok (.iload_n 0, 1) := by decide +kernel
theorem dM_in_6 : decode cM_in 6 = .ok (.iload_n 2, 1) := by decide +kernel
theorem dM_in_7 : decode cM_in 7 = .ok (.if_icmp .gt 7, 3) := by decide +kernel
theorem dM_in_10 : decode cM_in 10 = .ok (.iconst 1, 1) := by decide +kernel
theorem dM_in_11 : decode cM_in 11 = .ok (.goto 4, 3) := by decide +kernel
theorem dM_in_14 : decode cM_in 14 = .ok (.iconst 0, 1) := by decide +kernel
theorem dM_in_15 : decode cM_in 15 = .ok (.ireturn, 1) := by decide +kernel
theorem dM_made_0 : decode cM_made 0 = .ok (.iload_n 1, 1) := by decide +kernel
theorem dM_made_1 : decode cM_made 1 = .ok (.iconst 0, 1) := by decide +kernel
theorem dM_made_2 : decode cM_made 2 = .ok (.aload_n 0, 1) := by decide +kernel
theorem dM_made_3 : decode cM_made 3 = .ok (.getfield 28, 3) := by decide +kernel
theorem dM_made_6 : decode cM_made 6 = .ok (.iconst 1, 1) := by decide +kernel
theorem dM_made_7 : decode cM_made 7 = .ok (.isub, 1) := by decide +kernel
theorem dM_made_8 : decode cM_made 8 = .ok (.invokestatic 31, 3) := by decide +kernel
theorem dM_made_11 : decode cM_made 11 = .ok (.ireturn, 1) := by decide +kernel
theorem dM_value_0 : decode cM_value 0 = .ok (.iload_n 0, 1) := by decide +kernel
theorem dM_value_1 : decode cM_value 1 = .ok (.iconst 4, 1) := by decide +kernel
theorem dM_value_2 : decode cM_value 2 = .ok (.iconst 2, 1) := by decide +kernel
theorem dM_value_3 : decode cM_value 3 = .ok (.iload_n 1, 1) := by decide +kernel
theorem dM_value_4 : decode cM_value 4 = .ok (.imul, 1) := by decide +kernel
theorem dM_value_5 : decode cM_value 5 = .ok (.isub, 1) := by decide +kernel
theorem dM_value_6 : decode cM_value 6 = .ok (.ishr, 1) := by decide +kernel
theorem dM_value_7 : decode cM_value 7 = .ok (.iconst 3, 1) := by decide +kernel
theorem dM_value_8 : decode cM_value 8 = .ok (.iand, 1) := by decide +kernel
theorem dM_value_9 : decode cM_value 9 = .ok (.ireturn, 1) := by decide +kernel
theorem dM_with_0 : decode cM_with 0 = .ok (.iload_n 0, 1) := by decide +kernel
theorem dM_with_1 : decode cM_with 1 = .ok (.iload_n 2, 1) := by decide +kernel
theorem dM_with_2 : decode cM_with 2 = .ok (.iload_n 0, 1) := by decide +kernel
theorem dM_with_3 : decode cM_with 3 = .ok (.iload_n 1, 1) := by decide +kernel
theorem dM_with_4 : decode cM_with 4 = .ok (.invokestatic 35, 3) := by decide +kernel
theorem dM_with_7 : decode cM_with 7 = .ok (.isub, 1) := by decide +kernel
theorem dM_with_8 : decode cM_with 8 = .ok (.iconst 4, 1) := by decide +kernel
theorem dM_with_9 : decode cM_with 9 = .ok (.iconst 2, 1) := by decide +kernel
theorem dM_with_10 : decode cM_with 10 = .ok (.iload_n 1, 1) := by decide +kernel
theorem dM_with_11 : decode cM_with 11 = .ok (.imul, 1) := by decide +kernel
theorem dM_with_12 : decode cM_with 12 = .ok (.isub, 1) := by decide +kernel
theorem dM_with_13 : decode cM_with 13 = .ok (.ishl, 1) := by decide +kernel
theorem dM_with_14 : decode cM_with 14 = .ok (.iadd, 1) := by decide +kernel
theorem dM_with_15 : decode cM_with 15 = .ok (.ireturn, 1) := by decide +kernel
theorem dM_all_0 : decode cM_all 0 = .ok (.lconst 0, 1) := by decide +kernel
theorem dM_all_1 : decode cM_all 1 = .ok (.lstore 4, 2) := by decide +kernel
theorem dM_all_3 : decode cM_all 3 = .ok (.iconst 0, 1) := by decide +kernel
theorem dM_all_4 : decode cM_all 4 = .ok (.istore 6, 2) := by decide +kernel
theorem dM_all_6 : decode cM_all 6 = .ok (.iload 6, 2) := by decide +kernel
theorem dM_all_8 : decode cM_all 8 = .ok (.bipush 64, 2) := by decide +kernel
theorem dM_all_10 : decode cM_all 10 = .ok (.if_icmp .ge 37, 3) := by decide +kernel
theorem dM_all_13 : decode cM_all 13 = .ok (.lload_n 2, 1) := by decide +kernel
theorem dM_all_14 : decode cM_all 14 = .ok (.iload 6, 2) := by decide +kernel
theorem dM_all_16 : decode cM_all 16 = .ok (.lshr, 1) := by decide +kernel
theorem dM_all_17 : decode cM_all 17 = .ok (.lconst 1, 1) := by decide +kernel
theorem dM_all_18 : decode cM_all 18 = .ok (.land, 1) := by decide +kernel
theorem dM_all_19 : decode cM_all 19 = .ok (.lconst 0, 1) := by decide +kernel
theorem dM_all_20 : decode cM_all 20 = .ok (.lcmp, 1) := by decide +kernel
theorem dM_all_21 : decode cM_all 21 = .ok (.ifCond .eq 20, 3) := by decide +kernel
theorem dM_all_24 : decode cM_all 24 = .ok (.lload 4, 2) := by decide +kernel
theorem dM_all_26 : decode cM_all 26 = .ok (.aload_n 0, 1) := by decide +kernel
theorem dM_all_27 : decode cM_all 27 = .ok (.getfield 7, 3) := by decide +kernel
theorem dM_all_30 : decode cM_all 30 = .ok (.bipush 64, 2) := by decide +kernel
theorem dM_all_32 : decode cM_all 32 = .ok (.iload_n 1, 1) := by decide +kernel
theorem dM_all_33 : decode cM_all 33 = .ok (.imul, 1) := by decide +kernel
theorem dM_all_34 : decode cM_all 34 = .ok (.iload 6, 2) := by decide +kernel
theorem dM_all_36 : decode cM_all 36 = .ok (.iadd, 1) := by decide +kernel
theorem dM_all_37 : decode cM_all 37 = .ok (.laload, 1) := by decide +kernel
theorem dM_all_38 : decode cM_all 38 = .ok (.lor, 1) := by decide +kernel
theorem dM_all_39 : decode cM_all 39 = .ok (.lstore 4, 2) := by decide +kernel
theorem dM_all_41 : decode cM_all 41 = .ok (.iinc 6 1, 3) := by decide +kernel
theorem dM_all_44 : decode cM_all 44 = .ok (.goto (-38), 3) := by decide +kernel
theorem dM_all_47 : decode cM_all 47 = .ok (.lload 4, 2) := by decide +kernel
theorem dM_all_49 : decode cM_all 49 = .ok (.lreturn, 1) := by decide +kernel
theorem dM_star_0 : decode cM_star 0 = .ok (.lconst 1, 1) := by decide +kernel
theorem dM_star_1 : decode cM_star 1 = .ok (.iload_n 2, 1) := by decide +kernel
theorem dM_star_2 : decode cM_star 2 = .ok (.lshl, 1) := by decide +kernel
theorem dM_star_3 : decode cM_star 3 = .ok (.lstore_n 3, 1) := by decide +kernel
theorem dM_star_4 : decode cM_star 4 = .ok (.iconst 0, 1) := by decide +kernel
theorem dM_star_5 : decode cM_star 5 = .ok (.istore 5, 2) := by decide +kernel
theorem dM_star_7 : decode cM_star 7 = .ok (.iload 5, 2) := by decide +kernel
theorem dM_star_9 : decode cM_star 9 = .ok (.bipush 64, 2) := by decide +kernel
theorem dM_star_11 : decode cM_star 11 = .ok (.if_icmp .ge 18, 3) := by decide +kernel
theorem dM_star_14 : decode cM_star 14 = .ok (.lload_n 3, 1) := by decide +kernel
theorem dM_star_15 : decode cM_star 15 = .ok (.aload_n 0, 1) := by decide +kernel
theorem dM_star_16 : decode cM_star 16 = .ok (.iload_n 1, 1) := by decide +kernel
theorem dM_star_17 : decode cM_star 17 = .ok (.lload_n 3, 1) := by decide +kernel
theorem dM_star_18 : decode cM_star 18 = .ok (.invokevirtual 39, 3) := by decide +kernel
theorem dM_star_21 : decode cM_star 21 = .ok (.lor, 1) := by decide +kernel
theorem dM_star_22 : decode cM_star 22 = .ok (.lstore_n 3, 1) := by decide +kernel
theorem dM_star_23 : decode cM_star 23 = .ok (.iinc 5 1, 3) := by decide +kernel
theorem dM_star_26 : decode cM_star 26 = .ok (.goto (-19), 3) := by decide +kernel
theorem dM_star_29 : decode cM_star 29 = .ok (.lload_n 3, 1) := by decide +kernel
theorem dM_star_30 : decode cM_star 30 = .ok (.lreturn, 1) := by decide +kernel
theorem dM_worked_0 : decode cM_worked 0 = .ok (.lconst 1, 1) := by decide +kernel
theorem dM_worked_1 : decode cM_worked 1 = .ok (.iload 5, 2) := by decide +kernel
theorem dM_worked_3 : decode cM_worked 3 = .ok (.lshl, 1) := by decide +kernel
theorem dM_worked_4 : decode cM_worked 4 = .ok (.lstore 6, 2) := by decide +kernel
theorem dM_worked_6 : decode cM_worked 6 = .ok (.iload_n 1, 1) := by decide +kernel
theorem dM_worked_7 : decode cM_worked 7 = .ok (.tableswitch 153 0 7 #[45, 47, 50, 67, 77, 103, 121, 129], 45) := by decide +kernel
theorem dM_worked_52 : decode cM_worked 52 = .ok (.lconst 0, 1) := by decide +kernel
theorem dM_worked_53 : decode cM_worked 53 = .ok (.lreturn, 1) := by decide +kernel
theorem dM_worked_54 : decode cM_worked 54 = .ok (.lload 6, 2) := by decide +kernel
theorem dM_worked_56 : decode cM_worked 56 = .ok (.lreturn, 1) := by decide +kernel
theorem dM_worked_57 : decode cM_worked 57 = .ok (.iload 5, 2) := by decide +kernel
theorem dM_worked_59 : decode cM_worked 59 = .ok (.iload_n 2, 1) := by decide +kernel
theorem dM_worked_60 : decode cM_worked 60 = .ok (.invokestatic 35, 3) := by decide +kernel
theorem dM_worked_63 : decode cM_worked 63 = .ok (.iload_n 3, 1) := by decide +kernel
theorem dM_worked_64 : decode cM_worked 64 = .ok (.if_icmp .ne 8, 3) := by decide +kernel
theorem dM_worked_67 : decode cM_worked 67 = .ok (.lload 6, 2) := by decide +kernel
theorem dM_worked_69 : decode cM_worked 69 = .ok (.goto 4, 3) := by decide +kernel
theorem dM_worked_72 : decode cM_worked 72 = .ok (.lconst 0, 1) := by decide +kernel
theorem dM_worked_73 : decode cM_worked 73 = .ok (.lreturn, 1) := by decide +kernel
theorem dM_worked_74 : decode cM_worked 74 = .ok (.lconst 1, 1) := by decide +kernel
theorem dM_worked_75 : decode cM_worked 75 = .ok (.iload 5, 2) := by decide +kernel
theorem dM_worked_77 : decode cM_worked 77 = .ok (.iload_n 2, 1) := by decide +kernel
theorem dM_worked_78 : decode cM_worked 78 = .ok (.iload_n 3, 1) := by decide +kernel
theorem dM_worked_79 : decode cM_worked 79 = .ok (.invokestatic 43, 3) := by decide +kernel
theorem dM_worked_82 : decode cM_worked 82 = .ok (.lshl, 1) := by decide +kernel
theorem dM_worked_83 : decode cM_worked 83 = .ok (.lreturn, 1) := by decide +kernel
theorem dM_worked_84 : decode cM_worked 84 = .ok (.aload_n 0, 1) := by decide +kernel
theorem dM_worked_85 : decode cM_worked 85 = .ok (.getfield 7, 3) := by decide +kernel
theorem dM_worked_88 : decode cM_worked 88 = .ok (.bipush 64, 2) := by decide +kernel
theorem dM_worked_90 : decode cM_worked 90 = .ok (.iload_n 2, 1) := by decide +kernel
theorem dM_worked_91 : decode cM_worked 91 = .ok (.imul, 1) := by decide +kernel
theorem dM_worked_92 : decode cM_worked 92 = .ok (.iload 5, 2) := by decide +kernel
theorem dM_worked_94 : decode cM_worked 94 = .ok (.iadd, 1) := by decide +kernel
theorem dM_worked_95 : decode cM_worked 95 = .ok (.laload, 1) := by decide +kernel
theorem dM_worked_96 : decode cM_worked 96 = .ok (.aload_n 0, 1) := by decide +kernel
theorem dM_worked_97 : decode cM_worked 97 = .ok (.getfield 7, 3) := by decide +kernel
theorem dM_worked_100 : decode cM_worked 100 = .ok (.bipush 64, 2) := by decide +kernel
theorem dM_worked_102 : decode cM_worked 102 = .ok (.iload_n 3, 1) := by decide +kernel
theorem dM_worked_103 : decode cM_worked 103 = .ok (.imul, 1) := by decide +kernel
theorem dM_worked_104 : decode cM_worked 104 = .ok (.iload 5, 2) := by decide +kernel
theorem dM_worked_106 : decode cM_worked 106 = .ok (.iadd, 1) := by decide +kernel
theorem dM_worked_107 : decode cM_worked 107 = .ok (.laload, 1) := by decide +kernel
theorem dM_worked_108 : decode cM_worked 108 = .ok (.lor, 1) := by decide +kernel
theorem dM_worked_109 : decode cM_worked 109 = .ok (.lreturn, 1) := by decide +kernel
theorem dM_worked_110 : decode cM_worked 110 = .ok (.aload_n 0, 1) := by decide +kernel
theorem dM_worked_111 : decode cM_worked 111 = .ok (.iload_n 3, 1) := by decide +kernel
theorem dM_worked_112 : decode cM_worked 112 = .ok (.aload_n 0, 1) := by decide +kernel
theorem dM_worked_113 : decode cM_worked 113 = .ok (.getfield 7, 3) := by decide +kernel
theorem dM_worked_116 : decode cM_worked 116 = .ok (.bipush 64, 2) := by decide +kernel
theorem dM_worked_118 : decode cM_worked 118 = .ok (.iload_n 2, 1) := by decide +kernel
theorem dM_worked_119 : decode cM_worked 119 = .ok (.imul, 1) := by decide +kernel
theorem dM_worked_120 : decode cM_worked 120 = .ok (.iload 5, 2) := by decide +kernel
theorem dM_worked_122 : decode cM_worked 122 = .ok (.iadd, 1) := by decide +kernel
theorem dM_worked_123 : decode cM_worked 123 = .ok (.laload, 1) := by decide +kernel
theorem dM_worked_124 : decode cM_worked 124 = .ok (.invokevirtual 39, 3) := by decide +kernel
theorem dM_worked_127 : decode cM_worked 127 = .ok (.lreturn, 1) := by decide +kernel
theorem dM_worked_128 : decode cM_worked 128 = .ok (.aload_n 0, 1) := by decide +kernel
theorem dM_worked_129 : decode cM_worked 129 = .ok (.iload_n 2, 1) := by decide +kernel
theorem dM_worked_130 : decode cM_worked 130 = .ok (.iload 5, 2) := by decide +kernel
theorem dM_worked_132 : decode cM_worked 132 = .ok (.invokevirtual 47, 3) := by decide +kernel
theorem dM_worked_135 : decode cM_worked 135 = .ok (.lreturn, 1) := by decide +kernel
theorem dM_worked_136 : decode cM_worked 136 = .ok (.aload_n 0, 1) := by decide +kernel
theorem dM_worked_137 : decode cM_worked 137 = .ok (.getfield 7, 3) := by decide +kernel
theorem dM_worked_140 : decode cM_worked 140 = .ok (.bipush 64, 2) := by decide +kernel
theorem dM_worked_142 : decode cM_worked 142 = .ok (.iload_n 2, 1) := by decide +kernel
theorem dM_worked_143 : decode cM_worked 143 = .ok (.imul, 1) := by decide +kernel
theorem dM_worked_144 : decode cM_worked 144 = .ok (.iload 5, 2) := by decide +kernel
theorem dM_worked_146 : decode cM_worked 146 = .ok (.iadd, 1) := by decide +kernel
theorem dM_worked_147 : decode cM_worked 147 = .ok (.laload, 1) := by decide +kernel
theorem dM_worked_148 : decode cM_worked 148 = .ok (.lconst 0, 1) := by decide +kernel
theorem dM_worked_149 : decode cM_worked 149 = .ok (.lcmp, 1) := by decide +kernel
theorem dM_worked_150 : decode cM_worked 150 = .ok (.ifCond .ne 8, 3) := by decide +kernel
theorem dM_worked_153 : decode cM_worked 153 = .ok (.lload 6, 2) := by decide +kernel
theorem dM_worked_155 : decode cM_worked 155 = .ok (.goto 4, 3) := by decide +kernel
theorem dM_worked_158 : decode cM_worked 158 = .ok (.lconst 0, 1) := by decide +kernel
theorem dM_worked_159 : decode cM_worked 159 = .ok (.lreturn, 1) := by decide +kernel
theorem dM_worked_160 : decode cM_worked 160 = .ok (.aload_n 0, 1) := by decide +kernel
theorem dM_worked_161 : decode cM_worked 161 = .ok (.getfield 7, 3) := by decide +kernel
theorem dM_worked_164 : decode cM_worked 164 = .ok (.bipush 64, 2) := by decide +kernel
theorem dM_worked_166 : decode cM_worked 166 = .ok (.aload_n 0, 1) := by decide +kernel
theorem dM_worked_167 : decode cM_worked 167 = .ok (.getfield 7, 3) := by decide +kernel
theorem dM_worked_170 : decode cM_worked 170 = .ok (.bipush 64, 2) := by decide +kernel
theorem dM_worked_172 : decode cM_worked 172 = .ok (.iload_n 2, 1) := by decide +kernel
theorem dM_worked_173 : decode cM_worked 173 = .ok (.imul, 1) := by decide +kernel
theorem dM_worked_174 : decode cM_worked 174 = .ok (.iload 5, 2) := by decide +kernel
theorem dM_worked_176 : decode cM_worked 176 = .ok (.iadd, 1) := by decide +kernel
theorem dM_worked_177 : decode cM_worked 177 = .ok (.laload, 1) := by decide +kernel
theorem dM_worked_178 : decode cM_worked 178 = .ok (.lconst 0, 1) := by decide +kernel
theorem dM_worked_179 : decode cM_worked 179 = .ok (.lcmp, 1) := by decide +kernel
theorem dM_worked_180 : decode cM_worked 180 = .ok (.ifCond .eq 7, 3) := by decide +kernel
theorem dM_worked_183 : decode cM_worked 183 = .ok (.iload_n 3, 1) := by decide +kernel
theorem dM_worked_184 : decode cM_worked 184 = .ok (.goto 5, 3) := by decide +kernel
theorem dM_worked_187 : decode cM_worked 187 = .ok (.iload 4, 2) := by decide +kernel
theorem dM_worked_189 : decode cM_worked 189 = .ok (.imul, 1) := by decide +kernel
theorem dM_worked_190 : decode cM_worked 190 = .ok (.iload 5, 2) := by decide +kernel
theorem dM_worked_192 : decode cM_worked 192 = .ok (.iadd, 1) := by decide +kernel
theorem dM_worked_193 : decode cM_worked 193 = .ok (.laload, 1) := by decide +kernel
theorem dM_worked_194 : decode cM_worked 194 = .ok (.lreturn, 1) := by decide +kernel
theorem dM_passes_0 : decode cM_passes 0 = .ok (.iload_n 1, 1) := by decide +kernel
theorem dM_passes_1 : decode cM_passes 1 = .ok (.iconst 3, 1) := by decide +kernel
theorem dM_passes_2 : decode cM_passes 2 = .ok (.if_icmp .lt 9, 3) := by decide +kernel
theorem dM_passes_5 : decode cM_passes 5 = .ok (.iload_n 1, 1) := by decide +kernel
theorem dM_passes_6 : decode cM_passes 6 = .ok (.bipush 7, 2) := by decide +kernel
theorem dM_passes_8 : decode cM_passes 8 = .ok (.if_icmp .ne 5, 3) := by decide +kernel
theorem dM_passes_11 : decode cM_passes 11 = .ok (.iconst 1, 1) := by decide +kernel
theorem dM_passes_12 : decode cM_passes 12 = .ok (.ireturn, 1) := by decide +kernel
theorem dM_passes_13 : decode cM_passes 13 = .ok (.iload_n 1, 1) := by decide +kernel
theorem dM_passes_14 : decode cM_passes 14 = .ok (.iconst 3, 1) := by decide +kernel
theorem dM_passes_15 : decode cM_passes 15 = .ok (.if_icmp .ne 5, 3) := by decide +kernel
theorem dM_passes_18 : decode cM_passes 18 = .ok (.iconst 0, 1) := by decide +kernel
theorem dM_passes_19 : decode cM_passes 19 = .ok (.ireturn, 1) := by decide +kernel
theorem dM_passes_20 : decode cM_passes 20 = .ok (.iload_n 1, 1) := by decide +kernel
theorem dM_passes_21 : decode cM_passes 21 = .ok (.bipush 6, 2) := by decide +kernel
theorem dM_passes_23 : decode cM_passes 23 = .ok (.if_icmp .ne 10, 3) := by decide +kernel
theorem dM_passes_26 : decode cM_passes 26 = .ok (.aload_n 0, 1) := by decide +kernel
theorem dM_passes_27 : decode cM_passes 27 = .ok (.getfield 13, 3) := by decide +kernel
theorem dM_passes_30 : decode cM_passes 30 = .ok (.iload_n 2, 1) := by decide +kernel
theorem dM_passes_31 : decode cM_passes 31 = .ok (.baload, 1) := by decide +kernel
theorem dM_passes_32 : decode cM_passes 32 = .ok (.ireturn, 1) := by decide +kernel
theorem dM_passes_33 : decode cM_passes 33 = .ok (.aload_n 0, 1) := by decide +kernel
theorem dM_passes_34 : decode cM_passes 34 = .ok (.getfield 13, 3) := by decide +kernel
theorem dM_passes_37 : decode cM_passes 37 = .ok (.iload_n 2, 1) := by decide +kernel
theorem dM_passes_38 : decode cM_passes 38 = .ok (.baload, 1) := by decide +kernel
theorem dM_passes_39 : decode cM_passes 39 = .ok (.ifCond .eq 32, 3) := by decide +kernel
theorem dM_passes_42 : decode cM_passes 42 = .ok (.aload_n 0, 1) := by decide +kernel
theorem dM_passes_43 : decode cM_passes 43 = .ok (.getfield 13, 3) := by decide +kernel
theorem dM_passes_46 : decode cM_passes 46 = .ok (.iload_n 3, 1) := by decide +kernel
theorem dM_passes_47 : decode cM_passes 47 = .ok (.baload, 1) := by decide +kernel
theorem dM_passes_48 : decode cM_passes 48 = .ok (.ifCond .eq 23, 3) := by decide +kernel
theorem dM_passes_51 : decode cM_passes 51 = .ok (.iload_n 1, 1) := by decide +kernel
theorem dM_passes_52 : decode cM_passes 52 = .ok (.bipush 8, 2) := by decide +kernel
theorem dM_passes_54 : decode cM_passes 54 = .ok (.if_icmp .lt 13, 3) := by decide +kernel
theorem dM_passes_57 : decode cM_passes 57 = .ok (.aload_n 0, 1) := by decide +kernel
theorem dM_passes_58 : decode cM_passes 58 = .ok (.getfield 13, 3) := by decide +kernel
theorem dM_passes_61 : decode cM_passes 61 = .ok (.iload 4, 2) := by decide +kernel
theorem dM_passes_63 : decode cM_passes 63 = .ok (.baload, 1) := by decide +kernel
theorem dM_passes_64 : decode cM_passes 64 = .ok (.ifCond .eq 7, 3) := by decide +kernel
theorem dM_passes_67 : decode cM_passes 67 = .ok (.iconst 1, 1) := by decide +kernel
theorem dM_passes_68 : decode cM_passes 68 = .ok (.goto 4, 3) := by decide +kernel
theorem dM_passes_71 : decode cM_passes 71 = .ok (.iconst 0, 1) := by decide +kernel
theorem dM_passes_72 : decode cM_passes 72 = .ok (.ireturn, 1) := by decide +kernel
theorem dM_can_0 : decode cM_can 0 = .ok (.iload_n 1, 1) := by decide +kernel
theorem dM_can_1 : decode cM_can 1 = .ok (.tableswitch 136 0 8 #[51, 51, 53, 53, 77, 77, 99, 99, 105], 51) := by decide +kernel
theorem dM_can_52 : decode cM_can 52 = .ok (.iconst 1, 1) := by decide +kernel
theorem dM_can_53 : decode cM_can 53 = .ok (.ireturn, 1) := by decide +kernel
theorem dM_can_54 : decode cM_can 54 = .ok (.iload_n 2, 1) := by decide +kernel
theorem dM_can_55 : decode cM_can 55 = .ok (.iconst 0, 1) := by decide +kernel
theorem dM_can_56 : decode cM_can 56 = .ok (.iconst 2, 1) := by decide +kernel
theorem dM_can_57 : decode cM_can 57 = .ok (.invokestatic 31, 3) := by decide +kernel
theorem dM_can_60 : decode cM_can 60 = .ok (.ifCond .eq 16, 3) := by decide +kernel
theorem dM_can_63 : decode cM_can 63 = .ok (.iload_n 3, 1) := by decide +kernel
theorem dM_can_64 : decode cM_can 64 = .ok (.iconst 0, 1) := by decide +kernel
theorem dM_can_65 : decode cM_can 65 = .ok (.iconst 3, 1) := by decide +kernel
theorem dM_can_66 : decode cM_can 66 = .ok (.invokestatic 31, 3) := by decide +kernel
theorem dM_can_69 : decode cM_can 69 = .ok (.ifCond .eq 7, 3) := by decide +kernel
theorem dM_can_72 : decode cM_can 72 = .ok (.iconst 1, 1) := by decide +kernel
theorem dM_can_73 : decode cM_can 73 = .ok (.goto 4, 3) := by decide +kernel
theorem dM_can_76 : decode cM_can 76 = .ok (.iconst 0, 1) := by decide +kernel
theorem dM_can_77 : decode cM_can 77 = .ok (.ireturn, 1) := by decide +kernel
theorem dM_can_78 : decode cM_can 78 = .ok (.aload_n 0, 1) := by decide +kernel
theorem dM_can_79 : decode cM_can 79 = .ok (.iload_n 2, 1) := by decide +kernel
theorem dM_can_80 : decode cM_can 80 = .ok (.invokevirtual 51, 3) := by decide +kernel
theorem dM_can_83 : decode cM_can 83 = .ok (.ifCond .eq 15, 3) := by decide +kernel
theorem dM_can_86 : decode cM_can 86 = .ok (.aload_n 0, 1) := by decide +kernel
theorem dM_can_87 : decode cM_can 87 = .ok (.iload_n 3, 1) := by decide +kernel
theorem dM_can_88 : decode cM_can 88 = .ok (.invokevirtual 51, 3) := by decide +kernel
theorem dM_can_91 : decode cM_can 91 = .ok (.ifCond .eq 7, 3) := by decide +kernel
theorem dM_can_94 : decode cM_can 94 = .ok (.iconst 1, 1) := by decide +kernel
theorem dM_can_95 : decode cM_can 95 = .ok (.goto 4, 3) := by decide +kernel
theorem dM_can_98 : decode cM_can 98 = .ok (.iconst 0, 1) := by decide +kernel
theorem dM_can_99 : decode cM_can 99 = .ok (.ireturn, 1) := by decide +kernel
theorem dM_can_100 : decode cM_can 100 = .ok (.aload_n 0, 1) := by decide +kernel
theorem dM_can_101 : decode cM_can 101 = .ok (.iload_n 2, 1) := by decide +kernel
theorem dM_can_102 : decode cM_can 102 = .ok (.invokevirtual 51, 3) := by decide +kernel
theorem dM_can_105 : decode cM_can 105 = .ok (.ireturn, 1) := by decide +kernel
theorem dM_can_106 : decode cM_can 106 = .ok (.aload_n 0, 1) := by decide +kernel
theorem dM_can_107 : decode cM_can 107 = .ok (.iload_n 2, 1) := by decide +kernel
theorem dM_can_108 : decode cM_can 108 = .ok (.invokevirtual 51, 3) := by decide +kernel
theorem dM_can_111 : decode cM_can 111 = .ok (.ifCond .eq 24, 3) := by decide +kernel
theorem dM_can_114 : decode cM_can 114 = .ok (.aload_n 0, 1) := by decide +kernel
theorem dM_can_115 : decode cM_can 115 = .ok (.iload_n 3, 1) := by decide +kernel
theorem dM_can_116 : decode cM_can 116 = .ok (.invokevirtual 51, 3) := by decide +kernel
theorem dM_can_119 : decode cM_can 119 = .ok (.ifCond .eq 16, 3) := by decide +kernel
theorem dM_can_122 : decode cM_can 122 = .ok (.aload_n 0, 1) := by decide +kernel
theorem dM_can_123 : decode cM_can 123 = .ok (.iload 4, 2) := by decide +kernel
theorem dM_can_125 : decode cM_can 125 = .ok (.invokevirtual 51, 3) := by decide +kernel
theorem dM_can_128 : decode cM_can 128 = .ok (.ifCond .eq 7, 3) := by decide +kernel
theorem dM_can_131 : decode cM_can 131 = .ok (.iconst 1, 1) := by decide +kernel
theorem dM_can_132 : decode cM_can 132 = .ok (.goto 4, 3) := by decide +kernel
theorem dM_can_135 : decode cM_can 135 = .ok (.iconst 0, 1) := by decide +kernel
theorem dM_can_136 : decode cM_can 136 = .ok (.ireturn, 1) := by decide +kernel
theorem dM_can_137 : decode cM_can 137 = .ok (.iconst 0, 1) := by decide +kernel
theorem dM_can_138 : decode cM_can 138 = .ok (.ireturn, 1) := by decide +kernel
theorem dM_policy_0 : decode cM_policy 0 = .ok (.aload_n 0, 1) := by decide +kernel
theorem dM_policy_1 : decode cM_policy 1 = .ok (.iconst 0, 1) := by decide +kernel
theorem dM_policy_2 : decode cM_policy 2 = .ok (.putfield 24, 3) := by decide +kernel
theorem dM_policy_5 : decode cM_policy 5 = .ok (.aload_n 0, 1) := by decide +kernel
theorem dM_policy_6 : decode cM_policy 6 = .ok (.iload_n 1, 1) := by decide +kernel
theorem dM_policy_7 : decode cM_policy 7 = .ok (.iload_n 2, 1) := by decide +kernel
theorem dM_policy_8 : decode cM_policy 8 = .ok (.iload_n 3, 1) := by decide +kernel
theorem dM_policy_9 : decode cM_policy 9 = .ok (.iload 4, 2) := by decide +kernel
theorem dM_policy_11 : decode cM_policy 11 = .ok (.invokevirtual 55, 3) := by decide +kernel
theorem dM_policy_14 : decode cM_policy 14 = .ok (.ifCond .ne 9, 3) := by decide +kernel
theorem dM_policy_17 : decode cM_policy 17 = .ok (.aload_n 0, 1) := by decide +kernel
theorem dM_policy_18 : decode cM_policy 18 = .ok (.iconst 1, 1) := by decide +kernel
theorem dM_policy_19 : decode cM_policy 19 = .ok (.invokevirtual 59, 3) := by decide +kernel
theorem dM_policy_22 : decode cM_policy 22 = .ok (.ireturn, 1) := by decide +kernel
theorem dM_policy_23 : decode cM_policy 23 = .ok (.iload_n 1, 1) := by decide +kernel
theorem dM_policy_24 : decode cM_policy 24 = .ok (.bipush 6, 2) := by decide +kernel
theorem dM_policy_26 : decode cM_policy 26 = .ok (.if_icmp .le 18, 3) := by decide +kernel
theorem dM_policy_29 : decode cM_policy 29 = .ok (.aload_n 0, 1) := by decide +kernel
theorem dM_policy_30 : decode cM_policy 30 = .ok (.getfield 13, 3) := by decide +kernel
theorem dM_policy_33 : decode cM_policy 33 = .ok (.iload_n 2, 1) := by decide +kernel
theorem dM_policy_34 : decode cM_policy 34 = .ok (.baload, 1) := by decide +kernel
theorem dM_policy_35 : decode cM_policy 35 = .ok (.ifCond .ne 9, 3) := by decide +kernel
theorem dM_policy_38 : decode cM_policy 38 = .ok (.aload_n 0, 1) := by decide +kernel
theorem dM_policy_39 : decode cM_policy 39 = .ok (.iconst 2, 1) := by decide +kernel
theorem dM_policy_40 : decode cM_policy 40 = .ok (.invokevirtual 59, 3) := by decide +kernel
theorem dM_policy_43 : decode cM_policy 43 = .ok (.ireturn, 1) := by decide +kernel
theorem dM_policy_44 : decode cM_policy 44 = .ok (.aload_n 0, 1) := by decide +kernel
theorem dM_policy_45 : decode cM_policy 45 = .ok (.getfield 28, 3) := by decide +kernel
theorem dM_policy_48 : decode cM_policy 48 = .ok (.bipush 50, 2) := by decide +kernel
theorem dM_policy_50 : decode cM_policy 50 = .ok (.if_icmp .ne 9, 3) := by decide +kernel
theorem dM_policy_53 : decode cM_policy 53 = .ok (.aload_n 0, 1) := by decide +kernel
theorem dM_policy_54 : decode cM_policy 54 = .ok (.iconst 3, 1) := by decide +kernel
theorem dM_policy_55 : decode cM_policy 55 = .ok (.invokevirtual 59, 3) := by decide +kernel
theorem dM_policy_58 : decode cM_policy 58 = .ok (.ireturn, 1) := by decide +kernel
theorem dM_policy_59 : decode cM_policy 59 = .ok (.iconst 0, 1) := by decide +kernel
theorem dM_policy_60 : decode cM_policy 60 = .ok (.istore 5, 2) := by decide +kernel
theorem dM_policy_62 : decode cM_policy 62 = .ok (.iload 5, 2) := by decide +kernel
theorem dM_policy_64 : decode cM_policy 64 = .ok (.bipush 64, 2) := by decide +kernel
theorem dM_policy_66 : decode cM_policy 66 = .ok (.if_icmp .ge 35, 3) := by decide +kernel
theorem dM_policy_69 : decode cM_policy 69 = .ok (.aload_n 0, 1) := by decide +kernel
theorem dM_policy_70 : decode cM_policy 70 = .ok (.getfield 7, 3) := by decide +kernel
theorem dM_policy_73 : decode cM_policy 73 = .ok (.bipush 64, 2) := by decide +kernel
theorem dM_policy_75 : decode cM_policy 75 = .ok (.aload_n 0, 1) := by decide +kernel
theorem dM_policy_76 : decode cM_policy 76 = .ok (.getfield 28, 3) := by decide +kernel
theorem dM_policy_79 : decode cM_policy 79 = .ok (.imul, 1) := by decide +kernel
theorem dM_policy_80 : decode cM_policy 80 = .ok (.iload 5, 2) := by decide +kernel
theorem dM_policy_82 : decode cM_policy 82 = .ok (.iadd, 1) := by decide +kernel
theorem dM_policy_83 : decode cM_policy 83 = .ok (.aload_n 0, 1) := by decide +kernel
theorem dM_policy_84 : decode cM_policy 84 = .ok (.iload_n 1, 1) := by decide +kernel
theorem dM_policy_85 : decode cM_policy 85 = .ok (.iload_n 2, 1) := by decide +kernel
theorem dM_policy_86 : decode cM_policy 86 = .ok (.iload_n 3, 1) := by decide +kernel
theorem dM_policy_87 : decode cM_policy 87 = .ok (.iload 4, 2) := by decide +kernel
theorem dM_policy_89 : decode cM_policy 89 = .ok (.iload 5, 2) := by decide +kernel
theorem dM_policy_91 : decode cM_policy 91 = .ok (.invokevirtual 63, 3) := by decide +kernel
theorem dM_policy_94 : decode cM_policy 94 = .ok (.lastore, 1) := by decide +kernel
theorem dM_policy_95 : decode cM_policy 95 = .ok (.iinc 5 1, 3) := by decide +kernel
theorem dM_policy_98 : decode cM_policy 98 = .ok (.goto (-36), 3) := by decide +kernel
theorem dM_policy_101 : decode cM_policy 101 = .ok (.aload_n 0, 1) := by decide +kernel
theorem dM_policy_102 : decode cM_policy 102 = .ok (.getfield 13, 3) := by decide +kernel
theorem dM_policy_105 : decode cM_policy 105 = .ok (.aload_n 0, 1) := by decide +kernel
theorem dM_policy_106 : decode cM_policy 106 = .ok (.getfield 28, 3) := by decide +kernel
theorem dM_policy_109 : decode cM_policy 109 = .ok (.aload_n 0, 1) := by decide +kernel
theorem dM_policy_110 : decode cM_policy 110 = .ok (.iload_n 1, 1) := by decide +kernel
theorem dM_policy_111 : decode cM_policy 111 = .ok (.iload_n 2, 1) := by decide +kernel
theorem dM_policy_112 : decode cM_policy 112 = .ok (.iload_n 3, 1) := by decide +kernel
theorem dM_policy_113 : decode cM_policy 113 = .ok (.iload 4, 2) := by decide +kernel
theorem dM_policy_115 : decode cM_policy 115 = .ok (.invokevirtual 67, 3) := by decide +kernel
theorem dM_policy_118 : decode cM_policy 118 = .ok (.bastore, 1) := by decide +kernel
theorem dM_policy_119 : decode cM_policy 119 = .ok (.aload_n 0, 1) := by decide +kernel
theorem dM_policy_120 : decode cM_policy 120 = .ok (.dup, 1) := by decide +kernel
theorem dM_policy_121 : decode cM_policy 121 = .ok (.getfield 28, 3) := by decide +kernel
theorem dM_policy_124 : decode cM_policy 124 = .ok (.iconst 1, 1) := by decide +kernel
theorem dM_policy_125 : decode cM_policy 125 = .ok (.iadd, 1) := by decide +kernel
theorem dM_policy_126 : decode cM_policy 126 = .ok (.putfield 28, 3) := by decide +kernel
theorem dM_policy_129 : decode cM_policy 129 = .ok (.aload_n 0, 1) := by decide +kernel
theorem dM_policy_130 : decode cM_policy 130 = .ok (.getfield 28, 3) := by decide +kernel
theorem dM_policy_133 : decode cM_policy 133 = .ok (.iconst 1, 1) := by decide +kernel
theorem dM_policy_134 : decode cM_policy 134 = .ok (.isub, 1) := by decide +kernel
theorem dM_policy_135 : decode cM_policy 135 = .ok (.ireturn, 1) := by decide +kernel
theorem dM_outcome_0 : decode cM_outcome 0 = .ok (.aload_n 0, 1) := by decide +kernel
theorem dM_outcome_1 : decode cM_outcome 1 = .ok (.iconst 0, 1) := by decide +kernel
theorem dM_outcome_2 : decode cM_outcome 2 = .ok (.putfield 24, 3) := by decide +kernel
theorem dM_outcome_5 : decode cM_outcome 5 = .ok (.aload_n 0, 1) := by decide +kernel
theorem dM_outcome_6 : decode cM_outcome 6 = .ok (.iload_n 1, 1) := by decide +kernel
theorem dM_outcome_7 : decode cM_outcome 7 = .ok (.invokevirtual 51, 3) := by decide +kernel
theorem dM_outcome_10 : decode cM_outcome 10 = .ok (.ifCond .ne 10, 3) := by decide +kernel
theorem dM_outcome_13 : decode cM_outcome 13 = .ok (.aload_n 0, 1) := by decide +kernel
theorem dM_outcome_14 : decode cM_outcome 14 = .ok (.iconst 1, 1) := by decide +kernel
theorem dM_outcome_15 : decode cM_outcome 15 = .ok (.invokevirtual 59, 3) := by decide +kernel
theorem dM_outcome_18 : decode cM_outcome 18 = .ok (.i2l, 1) := by decide +kernel
theorem dM_outcome_19 : decode cM_outcome 19 = .ok (.lreturn, 1) := by decide +kernel
theorem dM_outcome_20 : decode cM_outcome 20 = .ok (.iload_n 2, 1) := by decide +kernel
theorem dM_outcome_21 : decode cM_outcome 21 = .ok (.iconst 0, 1) := by decide +kernel
theorem dM_outcome_22 : decode cM_outcome 22 = .ok (.bipush 63, 2) := by decide +kernel
theorem dM_outcome_24 : decode cM_outcome 24 = .ok (.invokestatic 31, 3) := by decide +kernel
theorem dM_outcome_27 : decode cM_outcome 27 = .ok (.ifCond .eq 17, 3) := by decide +kernel
theorem dM_outcome_30 : decode cM_outcome 30 = .ok (.aload_n 0, 1) := by decide +kernel
theorem dM_outcome_31 : decode cM_outcome 31 = .ok (.getfield 7, 3) := by decide +kernel
theorem dM_outcome_34 : decode cM_outcome 34 = .ok (.bipush 64, 2) := by decide +kernel
theorem dM_outcome_36 : decode cM_outcome 36 = .ok (.iload_n 1, 1) := by decide +kernel
theorem dM_outcome_37 : decode cM_outcome 37 = .ok (.imul, 1) := by decide +kernel
theorem dM_outcome_38 : decode cM_outcome 38 = .ok (.iload_n 2, 1) := by decide +kernel
theorem dM_outcome_39 : decode cM_outcome 39 = .ok (.iadd, 1) := by decide +kernel
theorem dM_outcome_40 : decode cM_outcome 40 = .ok (.laload, 1) := by decide +kernel
theorem dM_outcome_41 : decode cM_outcome 41 = .ok (.goto 9, 3) := by decide +kernel
theorem dM_outcome_44 : decode cM_outcome 44 = .ok (.aload_n 0, 1) := by decide +kernel
theorem dM_outcome_45 : decode cM_outcome 45 = .ok (.iconst 2, 1) := by decide +kernel
theorem dM_outcome_46 : decode cM_outcome 46 = .ok (.invokevirtual 59, 3) := by decide +kernel
theorem dM_outcome_49 : decode cM_outcome 49 = .ok (.i2l, 1) := by decide +kernel
theorem dM_outcome_50 : decode cM_outcome 50 = .ok (.lreturn, 1) := by decide +kernel
theorem dM_image_0 : decode cM_image 0 = .ok (.aload_n 0, 1) := by decide +kernel
theorem dM_image_1 : decode cM_image 1 = .ok (.iconst 0, 1) := by decide +kernel
theorem dM_image_2 : decode cM_image 2 = .ok (.putfield 24, 3) := by decide +kernel
theorem dM_image_5 : decode cM_image 5 = .ok (.aload_n 0, 1) := by decide +kernel
theorem dM_image_6 : decode cM_image 6 = .ok (.iload_n 1, 1) := by decide +kernel
theorem dM_image_7 : decode cM_image 7 = .ok (.invokevirtual 51, 3) := by decide +kernel
theorem dM_image_10 : decode cM_image 10 = .ok (.ifCond .eq 12, 3) := by decide +kernel
theorem dM_image_13 : decode cM_image 13 = .ok (.aload_n 0, 1) := by decide +kernel
theorem dM_image_14 : decode cM_image 14 = .ok (.iload_n 1, 1) := by decide +kernel
theorem dM_image_15 : decode cM_image 15 = .ok (.lload_n 2, 1) := by decide +kernel
theorem dM_image_16 : decode cM_image 16 = .ok (.invokevirtual 39, 3) := by decide +kernel
theorem dM_image_19 : decode cM_image 19 = .ok (.goto 9, 3) := by decide +kernel
theorem dM_image_22 : decode cM_image 22 = .ok (.aload_n 0, 1) := by decide +kernel
theorem dM_image_23 : decode cM_image 23 = .ok (.iconst 1, 1) := by decide +kernel
theorem dM_image_24 : decode cM_image 24 = .ok (.invokevirtual 59, 3) := by decide +kernel
theorem dM_image_27 : decode cM_image 27 = .ok (.i2l, 1) := by decide +kernel
theorem dM_image_28 : decode cM_image 28 = .ok (.lreturn, 1) := by decide +kernel
theorem dM_source_0 : decode cM_source 0 = .ok (.aload_n 0, 1) := by decide +kernel
theorem dM_source_1 : decode cM_source 1 = .ok (.iconst 0, 1) := by decide +kernel
theorem dM_source_2 : decode cM_source 2 = .ok (.putfield 24, 3) := by decide +kernel
theorem dM_source_5 : decode cM_source 5 = .ok (.aload_n 0, 1) := by decide +kernel
theorem dM_source_6 : decode cM_source 6 = .ok (.iload_n 1, 1) := by decide +kernel
theorem dM_source_7 : decode cM_source 7 = .ok (.invokevirtual 51, 3) := by decide +kernel
theorem dM_source_10 : decode cM_source 10 = .ok (.ifCond .ne 10, 3) := by decide +kernel
theorem dM_source_13 : decode cM_source 13 = .ok (.aload_n 0, 1) := by decide +kernel
theorem dM_source_14 : decode cM_source 14 = .ok (.iconst 1, 1) := by decide +kernel
theorem dM_source_15 : decode cM_source 15 = .ok (.invokevirtual 59, 3) := by decide +kernel
theorem dM_source_18 : decode cM_source 18 = .ok (.i2l, 1) := by decide +kernel
theorem dM_source_19 : decode cM_source 19 = .ok (.lreturn, 1) := by decide +kernel
theorem dM_source_20 : decode cM_source 20 = .ok (.lconst 0, 1) := by decide +kernel
theorem dM_source_21 : decode cM_source 21 = .ok (.lstore 4, 2) := by decide +kernel
theorem dM_source_23 : decode cM_source 23 = .ok (.iconst 0, 1) := by decide +kernel
theorem dM_source_24 : decode cM_source 24 = .ok (.istore 6, 2) := by decide +kernel
theorem dM_source_26 : decode cM_source 26 = .ok (.iload 6, 2) := by decide +kernel
theorem dM_source_28 : decode cM_source 28 = .ok (.bipush 64, 2) := by decide +kernel
theorem dM_source_30 : decode cM_source 30 = .ok (.if_icmp .ge 37, 3) := by decide +kernel
theorem dM_source_33 : decode cM_source 33 = .ok (.aload_n 0, 1) := by decide +kernel
theorem dM_source_34 : decode cM_source 34 = .ok (.getfield 7, 3) := by decide +kernel
theorem dM_source_37 : decode cM_source 37 = .ok (.bipush 64, 2) := by decide +kernel
theorem dM_source_39 : decode cM_source 39 = .ok (.iload_n 1, 1) := by decide +kernel
theorem dM_source_40 : decode cM_source 40 = .ok (.imul, 1) := by decide +kernel
theorem dM_source_41 : decode cM_source 41 = .ok (.iload 6, 2) := by decide +kernel
theorem dM_source_43 : decode cM_source 43 = .ok (.iadd, 1) := by decide +kernel
theorem dM_source_44 : decode cM_source 44 = .ok (.laload, 1) := by decide +kernel
theorem dM_source_45 : decode cM_source 45 = .ok (.lload_n 2, 1) := by decide +kernel
theorem dM_source_46 : decode cM_source 46 = .ok (.land, 1) := by decide +kernel
theorem dM_source_47 : decode cM_source 47 = .ok (.lconst 0, 1) := by decide +kernel
theorem dM_source_48 : decode cM_source 48 = .ok (.lcmp, 1) := by decide +kernel
theorem dM_source_49 : decode cM_source 49 = .ok (.ifCond .eq 12, 3) := by decide +kernel
theorem dM_source_52 : decode cM_source 52 = .ok (.lload 4, 2) := by decide +kernel
theorem dM_source_54 : decode cM_source 54 = .ok (.lconst 1, 1) := by decide +kernel
theorem dM_source_55 : decode cM_source 55 = .ok (.iload 6, 2) := by decide +kernel
theorem dM_source_57 : decode cM_source 57 = .ok (.lshl, 1) := by decide +kernel
theorem dM_source_58 : decode cM_source 58 = .ok (.lor, 1) := by decide +kernel
theorem dM_source_59 : decode cM_source 59 = .ok (.lstore 4, 2) := by decide +kernel
theorem dM_source_61 : decode cM_source 61 = .ok (.iinc 6 1, 3) := by decide +kernel
theorem dM_source_64 : decode cM_source 64 = .ok (.goto (-38), 3) := by decide +kernel
theorem dM_source_67 : decode cM_source 67 = .ok (.lload 4, 2) := by decide +kernel
theorem dM_source_69 : decode cM_source 69 = .ok (.lreturn, 1) := by decide +kernel
theorem dM_filter_0 : decode cM_filter 0 = .ok (.aload_n 0, 1) := by decide +kernel
theorem dM_filter_1 : decode cM_filter 1 = .ok (.iconst 0, 1) := by decide +kernel
theorem dM_filter_2 : decode cM_filter 2 = .ok (.putfield 24, 3) := by decide +kernel
theorem dM_filter_5 : decode cM_filter 5 = .ok (.aload_n 0, 1) := by decide +kernel
theorem dM_filter_6 : decode cM_filter 6 = .ok (.iload_n 1, 1) := by decide +kernel
theorem dM_filter_7 : decode cM_filter 7 = .ok (.invokevirtual 51, 3) := by decide +kernel
theorem dM_filter_10 : decode cM_filter 10 = .ok (.ifCond .ne 9, 3) := by decide +kernel
theorem dM_filter_13 : decode cM_filter 13 = .ok (.aload_n 0, 1) := by decide +kernel
theorem dM_filter_14 : decode cM_filter 14 = .ok (.iconst 1, 1) := by decide +kernel
theorem dM_filter_15 : decode cM_filter 15 = .ok (.invokevirtual 59, 3) := by decide +kernel
theorem dM_filter_18 : decode cM_filter 18 = .ok (.ireturn, 1) := by decide +kernel
theorem dM_filter_19 : decode cM_filter 19 = .ok (.aload_n 0, 1) := by decide +kernel
theorem dM_filter_20 : decode cM_filter 20 = .ok (.getfield 13, 3) := by decide +kernel
theorem dM_filter_23 : decode cM_filter 23 = .ok (.iload_n 1, 1) := by decide +kernel
theorem dM_filter_24 : decode cM_filter 24 = .ok (.baload, 1) := by decide +kernel
theorem dM_filter_25 : decode cM_filter 25 = .ok (.ifCond .eq 7, 3) := by decide +kernel
theorem dM_filter_28 : decode cM_filter 28 = .ok (.iconst 1, 1) := by decide +kernel
theorem dM_filter_29 : decode cM_filter 29 = .ok (.goto 4, 3) := by decide +kernel
theorem dM_filter_32 : decode cM_filter 32 = .ok (.iconst 0, 1) := by decide +kernel
theorem dM_filter_33 : decode cM_filter 33 = .ok (.ireturn, 1) := by decide +kernel
theorem dM_apart_0 : decode cM_apart 0 = .ok (.iconst 0, 1) := by decide +kernel
theorem dM_apart_1 : decode cM_apart 1 = .ok (.istore_n 3, 1) := by decide +kernel
theorem dM_apart_2 : decode cM_apart 2 = .ok (.iload_n 3, 1) := by decide +kernel
theorem dM_apart_3 : decode cM_apart 3 = .ok (.bipush 64, 2) := by decide +kernel
theorem dM_apart_5 : decode cM_apart 5 = .ok (.if_icmp .ge 35, 3) := by decide +kernel
theorem dM_apart_8 : decode cM_apart 8 = .ok (.aload_n 0, 1) := by decide +kernel
theorem dM_apart_9 : decode cM_apart 9 = .ok (.getfield 7, 3) := by decide +kernel
theorem dM_apart_12 : decode cM_apart 12 = .ok (.bipush 64, 2) := by decide +kernel
theorem dM_apart_14 : decode cM_apart 14 = .ok (.iload_n 1, 1) := by decide +kernel
theorem dM_apart_15 : decode cM_apart 15 = .ok (.imul, 1) := by decide +kernel
theorem dM_apart_16 : decode cM_apart 16 = .ok (.iload_n 3, 1) := by decide +kernel
theorem dM_apart_17 : decode cM_apart 17 = .ok (.iadd, 1) := by decide +kernel
theorem dM_apart_18 : decode cM_apart 18 = .ok (.laload, 1) := by decide +kernel
theorem dM_apart_19 : decode cM_apart 19 = .ok (.aload_n 0, 1) := by decide +kernel
theorem dM_apart_20 : decode cM_apart 20 = .ok (.getfield 7, 3) := by decide +kernel
theorem dM_apart_23 : decode cM_apart 23 = .ok (.bipush 64, 2) := by decide +kernel
theorem dM_apart_25 : decode cM_apart 25 = .ok (.iload_n 2, 1) := by decide +kernel
theorem dM_apart_26 : decode cM_apart 26 = .ok (.imul, 1) := by decide +kernel
theorem dM_apart_27 : decode cM_apart 27 = .ok (.iload_n 3, 1) := by decide +kernel
theorem dM_apart_28 : decode cM_apart 28 = .ok (.iadd, 1) := by decide +kernel
theorem dM_apart_29 : decode cM_apart 29 = .ok (.laload, 1) := by decide +kernel
theorem dM_apart_30 : decode cM_apart 30 = .ok (.lcmp, 1) := by decide +kernel
theorem dM_apart_31 : decode cM_apart 31 = .ok (.ifCond .ne 9, 3) := by decide +kernel
theorem dM_apart_34 : decode cM_apart 34 = .ok (.iinc 3 1, 3) := by decide +kernel
theorem dM_apart_37 : decode cM_apart 37 = .ok (.goto (-35), 3) := by decide +kernel
theorem dM_apart_40 : decode cM_apart 40 = .ok (.iload_n 3, 1) := by decide +kernel
theorem dM_apart_41 : decode cM_apart 41 = .ok (.ireturn, 1) := by decide +kernel
theorem dM_same_0 : decode cM_same 0 = .ok (.aload_n 0, 1) := by decide +kernel
theorem dM_same_1 : decode cM_same 1 = .ok (.iconst 0, 1) := by decide +kernel
theorem dM_same_2 : decode cM_same 2 = .ok (.putfield 24, 3) := by decide +kernel
theorem dM_same_5 : decode cM_same 5 = .ok (.aload_n 0, 1) := by decide +kernel
theorem dM_same_6 : decode cM_same 6 = .ok (.iload_n 1, 1) := by decide +kernel
theorem dM_same_7 : decode cM_same 7 = .ok (.invokevirtual 51, 3) := by decide +kernel
theorem dM_same_10 : decode cM_same 10 = .ok (.ifCond .eq 11, 3) := by decide +kernel
theorem dM_same_13 : decode cM_same 13 = .ok (.aload_n 0, 1) := by decide +kernel
theorem dM_same_14 : decode cM_same 14 = .ok (.iload_n 2, 1) := by decide +kernel
theorem dM_same_15 : decode cM_same 15 = .ok (.invokevirtual 51, 3) := by decide +kernel
theorem dM_same_18 : decode cM_same 18 = .ok (.ifCond .ne 9, 3) := by decide +kernel
theorem dM_same_21 : decode cM_same 21 = .ok (.aload_n 0, 1) := by decide +kernel
theorem dM_same_22 : decode cM_same 22 = .ok (.iconst 1, 1) := by decide +kernel
theorem dM_same_23 : decode cM_same 23 = .ok (.invokevirtual 59, 3) := by decide +kernel
theorem dM_same_26 : decode cM_same 26 = .ok (.ireturn, 1) := by decide +kernel
theorem dM_same_27 : decode cM_same 27 = .ok (.aload_n 0, 1) := by decide +kernel
theorem dM_same_28 : decode cM_same 28 = .ok (.iload_n 1, 1) := by decide +kernel
theorem dM_same_29 : decode cM_same 29 = .ok (.iload_n 2, 1) := by decide +kernel
theorem dM_same_30 : decode cM_same 30 = .ok (.invokevirtual 70, 3) := by decide +kernel
theorem dM_same_33 : decode cM_same 33 = .ok (.bipush 64, 2) := by decide +kernel
theorem dM_same_35 : decode cM_same 35 = .ok (.if_icmp .ne 7, 3) := by decide +kernel
theorem dM_same_38 : decode cM_same 38 = .ok (.iconst 1, 1) := by decide +kernel
theorem dM_same_39 : decode cM_same 39 = .ok (.goto 4, 3) := by decide +kernel
theorem dM_same_42 : decode cM_same 42 = .ok (.iconst 0, 1) := by decide +kernel
theorem dM_same_43 : decode cM_same 43 = .ok (.ireturn, 1) := by decide +kernel
theorem dM_covers_0 : decode cM_covers 0 = .ok (.aload_n 0, 1) := by decide +kernel
theorem dM_covers_1 : decode cM_covers 1 = .ok (.iconst 0, 1) := by decide +kernel
theorem dM_covers_2 : decode cM_covers 2 = .ok (.putfield 24, 3) := by decide +kernel
theorem dM_covers_5 : decode cM_covers 5 = .ok (.aload_n 0, 1) := by decide +kernel
theorem dM_covers_6 : decode cM_covers 6 = .ok (.iload_n 1, 1) := by decide +kernel
theorem dM_covers_7 : decode cM_covers 7 = .ok (.invokevirtual 51, 3) := by decide +kernel
theorem dM_covers_10 : decode cM_covers 10 = .ok (.ifCond .eq 11, 3) := by decide +kernel
theorem dM_covers_13 : decode cM_covers 13 = .ok (.aload_n 0, 1) := by decide +kernel
theorem dM_covers_14 : decode cM_covers 14 = .ok (.iload_n 2, 1) := by decide +kernel
theorem dM_covers_15 : decode cM_covers 15 = .ok (.invokevirtual 51, 3) := by decide +kernel
theorem dM_covers_18 : decode cM_covers 18 = .ok (.ifCond .ne 9, 3) := by decide +kernel
theorem dM_covers_21 : decode cM_covers 21 = .ok (.aload_n 0, 1) := by decide +kernel
theorem dM_covers_22 : decode cM_covers 22 = .ok (.iconst 1, 1) := by decide +kernel
theorem dM_covers_23 : decode cM_covers 23 = .ok (.invokevirtual 59, 3) := by decide +kernel
theorem dM_covers_26 : decode cM_covers 26 = .ok (.ireturn, 1) := by decide +kernel
theorem dM_covers_27 : decode cM_covers 27 = .ok (.iconst 0, 1) := by decide +kernel
theorem dM_covers_28 : decode cM_covers 28 = .ok (.istore_n 3, 1) := by decide +kernel
theorem dM_covers_29 : decode cM_covers 29 = .ok (.iload_n 3, 1) := by decide +kernel
theorem dM_covers_30 : decode cM_covers 30 = .ok (.bipush 64, 2) := by decide +kernel
theorem dM_covers_32 : decode cM_covers 32 = .ok (.if_icmp .ge 43, 3) := by decide +kernel
theorem dM_covers_35 : decode cM_covers 35 = .ok (.aload_n 0, 1) := by decide +kernel
theorem dM_covers_36 : decode cM_covers 36 = .ok (.getfield 7, 3) := by decide +kernel
theorem dM_covers_39 : decode cM_covers 39 = .ok (.bipush 64, 2) := by decide +kernel
theorem dM_covers_41 : decode cM_covers 41 = .ok (.iload_n 2, 1) := by decide +kernel
theorem dM_covers_42 : decode cM_covers 42 = .ok (.imul, 1) := by decide +kernel
theorem dM_covers_43 : decode cM_covers 43 = .ok (.iload_n 3, 1) := by decide +kernel
theorem dM_covers_44 : decode cM_covers 44 = .ok (.iadd, 1) := by decide +kernel
theorem dM_covers_45 : decode cM_covers 45 = .ok (.laload, 1) := by decide +kernel
theorem dM_covers_46 : decode cM_covers 46 = .ok (.aload_n 0, 1) := by decide +kernel
theorem dM_covers_47 : decode cM_covers 47 = .ok (.getfield 7, 3) := by decide +kernel
theorem dM_covers_50 : decode cM_covers 50 = .ok (.bipush 64, 2) := by decide +kernel
theorem dM_covers_52 : decode cM_covers 52 = .ok (.iload_n 1, 1) := by decide +kernel
theorem dM_covers_53 : decode cM_covers 53 = .ok (.imul, 1) := by decide +kernel
theorem dM_covers_54 : decode cM_covers 54 = .ok (.iload_n 3, 1) := by decide +kernel
theorem dM_covers_55 : decode cM_covers 55 = .ok (.iadd, 1) := by decide +kernel
theorem dM_covers_56 : decode cM_covers 56 = .ok (.laload, 1) := by decide +kernel
theorem dM_covers_57 : decode cM_covers 57 = .ok (.ldc2_w 73, 3) := by decide +kernel
theorem dM_covers_60 : decode cM_covers 60 = .ok (.lxor, 1) := by decide +kernel
theorem dM_covers_61 : decode cM_covers 61 = .ok (.land, 1) := by decide +kernel
theorem dM_covers_62 : decode cM_covers 62 = .ok (.lconst 0, 1) := by decide +kernel
theorem dM_covers_63 : decode cM_covers 63 = .ok (.lcmp, 1) := by decide +kernel
theorem dM_covers_64 : decode cM_covers 64 = .ok (.ifCond .eq 5, 3) := by decide +kernel
theorem dM_covers_67 : decode cM_covers 67 = .ok (.iconst 0, 1) := by decide +kernel
theorem dM_covers_68 : decode cM_covers 68 = .ok (.ireturn, 1) := by decide +kernel
theorem dM_covers_69 : decode cM_covers 69 = .ok (.iinc 3 1, 3) := by decide +kernel
theorem dM_covers_72 : decode cM_covers 72 = .ok (.goto (-43), 3) := by decide +kernel
theorem dM_covers_75 : decode cM_covers 75 = .ok (.iconst 1, 1) := by decide +kernel
theorem dM_covers_76 : decode cM_covers 76 = .ok (.ireturn, 1) := by decide +kernel
theorem dM_differ_0 : decode cM_differ 0 = .ok (.aload_n 0, 1) := by decide +kernel
theorem dM_differ_1 : decode cM_differ 1 = .ok (.iconst 0, 1) := by decide +kernel
theorem dM_differ_2 : decode cM_differ 2 = .ok (.putfield 24, 3) := by decide +kernel
theorem dM_differ_5 : decode cM_differ 5 = .ok (.aload_n 0, 1) := by decide +kernel
theorem dM_differ_6 : decode cM_differ 6 = .ok (.iload_n 1, 1) := by decide +kernel
theorem dM_differ_7 : decode cM_differ 7 = .ok (.invokevirtual 51, 3) := by decide +kernel
theorem dM_differ_10 : decode cM_differ 10 = .ok (.ifCond .eq 11, 3) := by decide +kernel
theorem dM_differ_13 : decode cM_differ 13 = .ok (.aload_n 0, 1) := by decide +kernel
theorem dM_differ_14 : decode cM_differ 14 = .ok (.iload_n 2, 1) := by decide +kernel
theorem dM_differ_15 : decode cM_differ 15 = .ok (.invokevirtual 51, 3) := by decide +kernel
theorem dM_differ_18 : decode cM_differ 18 = .ok (.ifCond .ne 9, 3) := by decide +kernel
theorem dM_differ_21 : decode cM_differ 21 = .ok (.aload_n 0, 1) := by decide +kernel
theorem dM_differ_22 : decode cM_differ 22 = .ok (.iconst 1, 1) := by decide +kernel
theorem dM_differ_23 : decode cM_differ 23 = .ok (.invokevirtual 59, 3) := by decide +kernel
theorem dM_differ_26 : decode cM_differ 26 = .ok (.ireturn, 1) := by decide +kernel
theorem dM_differ_27 : decode cM_differ 27 = .ok (.aload_n 0, 1) := by decide +kernel
theorem dM_differ_28 : decode cM_differ 28 = .ok (.iload_n 1, 1) := by decide +kernel
theorem dM_differ_29 : decode cM_differ 29 = .ok (.iload_n 2, 1) := by decide +kernel
theorem dM_differ_30 : decode cM_differ 30 = .ok (.invokevirtual 70, 3) := by decide +kernel
theorem dM_differ_33 : decode cM_differ 33 = .ok (.istore_n 3, 1) := by decide +kernel
theorem dM_differ_34 : decode cM_differ 34 = .ok (.iload_n 3, 1) := by decide +kernel
theorem dM_differ_35 : decode cM_differ 35 = .ok (.bipush 64, 2) := by decide +kernel
theorem dM_differ_37 : decode cM_differ 37 = .ok (.if_icmp .ne 11, 3) := by decide +kernel
theorem dM_differ_40 : decode cM_differ 40 = .ok (.aload_n 0, 1) := by decide +kernel
theorem dM_differ_41 : decode cM_differ 41 = .ok (.iconst 2, 1) := by decide +kernel
theorem dM_differ_42 : decode cM_differ 42 = .ok (.invokevirtual 59, 3) := by decide +kernel
theorem dM_differ_45 : decode cM_differ 45 = .ok (.goto 4, 3) := by decide +kernel
theorem dM_differ_48 : decode cM_differ 48 = .ok (.iload_n 3, 1) := by decide +kernel
theorem dM_differ_49 : decode cM_differ 49 = .ok (.ireturn, 1) := by decide +kernel
theorem dM_action_0 : decode cM_action 0 = .ok (.iconst 0, 1) := by decide +kernel
theorem dM_action_1 : decode cM_action 1 = .ok (.istore_n 2, 1) := by decide +kernel
theorem dM_action_2 : decode cM_action 2 = .ok (.iconst 0, 1) := by decide +kernel
theorem dM_action_3 : decode cM_action 3 = .ok (.istore_n 3, 1) := by decide +kernel
theorem dM_action_4 : decode cM_action 4 = .ok (.iload_n 3, 1) := by decide +kernel
theorem dM_action_5 : decode cM_action 5 = .ok (.iconst 3, 1) := by decide +kernel
theorem dM_action_6 : decode cM_action 6 = .ok (.if_icmp .ge 36, 3) := by decide +kernel
theorem dM_action_9 : decode cM_action 9 = .ok (.iconst 5, 1) := by decide +kernel
theorem dM_action_10 : decode cM_action 10 = .ok (.iload_n 2, 1) := by decide +kernel
theorem dM_action_11 : decode cM_action 11 = .ok (.imul, 1) := by decide +kernel
theorem dM_action_12 : decode cM_action 12 = .ok (.iload_n 0, 1) := by decide +kernel
theorem dM_action_13 : decode cM_action 13 = .ok (.iload_n 3, 1) := by decide +kernel
theorem dM_action_14 : decode cM_action 14 = .ok (.invokestatic 35, 3) := by decide +kernel
theorem dM_action_17 : decode cM_action 17 = .ok (.iload_n 1, 1) := by decide +kernel
theorem dM_action_18 : decode cM_action 18 = .ok (.iload_n 3, 1) := by decide +kernel
theorem dM_action_19 : decode cM_action 19 = .ok (.invokestatic 35, 3) := by decide +kernel
theorem dM_action_22 : decode cM_action 22 = .ok (.if_icmp .ne 7, 3) := by decide +kernel
theorem dM_action_25 : decode cM_action 25 = .ok (.iconst 4, 1) := by decide +kernel
theorem dM_action_26 : decode cM_action 26 = .ok (.goto 8, 3) := by decide +kernel
theorem dM_action_29 : decode cM_action 29 = .ok (.iload_n 1, 1) := by decide +kernel
theorem dM_action_30 : decode cM_action 30 = .ok (.iload_n 3, 1) := by decide +kernel
theorem dM_action_31 : decode cM_action 31 = .ok (.invokestatic 35, 3) := by decide +kernel
theorem dM_action_34 : decode cM_action 34 = .ok (.iadd, 1) := by decide +kernel
theorem dM_action_35 : decode cM_action 35 = .ok (.istore_n 2, 1) := by decide +kernel
theorem dM_action_36 : decode cM_action 36 = .ok (.iinc 3 1, 3) := by decide +kernel
theorem dM_action_39 : decode cM_action 39 = .ok (.goto (-35), 3) := by decide +kernel
theorem dM_action_42 : decode cM_action 42 = .ok (.iload_n 2, 1) := by decide +kernel
theorem dM_action_43 : decode cM_action 43 = .ok (.ireturn, 1) := by decide +kernel
theorem dM_respond_0 : decode cM_respond 0 = .ok (.aload_n 0, 1) := by decide +kernel
theorem dM_respond_1 : decode cM_respond 1 = .ok (.lconst 0, 1) := by decide +kernel
theorem dM_respond_2 : decode cM_respond 2 = .ok (.putfield 75, 3) := by decide +kernel
theorem dM_respond_5 : decode cM_respond 5 = .ok (.aload_n 0, 1) := by decide +kernel
theorem dM_respond_6 : decode cM_respond 6 = .ok (.lconst 0, 1) := by decide +kernel
theorem dM_respond_7 : decode cM_respond 7 = .ok (.putfield 79, 3) := by decide +kernel
theorem dM_respond_10 : decode cM_respond 10 = .ok (.aload_n 0, 1) := by decide +kernel
theorem dM_respond_11 : decode cM_respond 11 = .ok (.getfield 7, 3) := by decide +kernel
theorem dM_respond_14 : decode cM_respond 14 = .ok (.bipush 64, 2) := by decide +kernel
theorem dM_respond_16 : decode cM_respond 16 = .ok (.iload_n 1, 1) := by decide +kernel
theorem dM_respond_17 : decode cM_respond 17 = .ok (.imul, 1) := by decide +kernel
theorem dM_respond_18 : decode cM_respond 18 = .ok (.iload_n 2, 1) := by decide +kernel
theorem dM_respond_19 : decode cM_respond 19 = .ok (.iadd, 1) := by decide +kernel
theorem dM_respond_20 : decode cM_respond 20 = .ok (.laload, 1) := by decide +kernel
theorem dM_respond_21 : decode cM_respond 21 = .ok (.lstore_n 3, 1) := by decide +kernel
theorem dM_respond_22 : decode cM_respond 22 = .ok (.iconst 0, 1) := by decide +kernel
theorem dM_respond_23 : decode cM_respond 23 = .ok (.istore 5, 2) := by decide +kernel
theorem dM_respond_25 : decode cM_respond 25 = .ok (.iload 5, 2) := by decide +kernel
theorem dM_respond_27 : decode cM_respond 27 = .ok (.bipush 64, 2) := by decide +kernel
theorem dM_respond_29 : decode cM_respond 29 = .ok (.if_icmp .ge 70, 3) := by decide +kernel
theorem dM_respond_32 : decode cM_respond 32 = .ok (.lload_n 3, 1) := by decide +kernel
theorem dM_respond_33 : decode cM_respond 33 = .ok (.iload 5, 2) := by decide +kernel
theorem dM_respond_35 : decode cM_respond 35 = .ok (.lshr, 1) := by decide +kernel
theorem dM_respond_36 : decode cM_respond 36 = .ok (.lconst 1, 1) := by decide +kernel
theorem dM_respond_37 : decode cM_respond 37 = .ok (.land, 1) := by decide +kernel
theorem dM_respond_38 : decode cM_respond 38 = .ok (.lconst 0, 1) := by decide +kernel
theorem dM_respond_39 : decode cM_respond 39 = .ok (.lcmp, 1) := by decide +kernel
theorem dM_respond_40 : decode cM_respond 40 = .ok (.ifCond .ne 6, 3) := by decide +kernel
theorem dM_respond_43 : decode cM_respond 43 = .ok (.goto 50, 3) := by decide +kernel
theorem dM_respond_46 : decode cM_respond 46 = .ok (.iload_n 2, 1) := by decide +kernel
theorem dM_respond_47 : decode cM_respond 47 = .ok (.iload 5, 2) := by decide +kernel
theorem dM_respond_49 : decode cM_respond 49 = .ok (.invokestatic 82, 3) := by decide +kernel
theorem dM_respond_52 : decode cM_respond 52 = .ok (.istore 6, 2) := by decide +kernel
theorem dM_respond_54 : decode cM_respond 54 = .ok (.iload 6, 2) := by decide +kernel
theorem dM_respond_56 : decode cM_respond 56 = .ok (.bipush 63, 2) := by decide +kernel
theorem dM_respond_58 : decode cM_respond 58 = .ok (.if_icmp .ge 19, 3) := by decide +kernel
theorem dM_respond_61 : decode cM_respond 61 = .ok (.aload_n 0, 1) := by decide +kernel
theorem dM_respond_62 : decode cM_respond 62 = .ok (.dup, 1) := by decide +kernel
theorem dM_respond_63 : decode cM_respond 63 = .ok (.getfield 75, 3) := by decide +kernel
theorem dM_respond_66 : decode cM_respond 66 = .ok (.lconst 1, 1) := by decide +kernel
theorem dM_respond_67 : decode cM_respond 67 = .ok (.iload 6, 2) := by decide +kernel
theorem dM_respond_69 : decode cM_respond 69 = .ok (.lshl, 1) := by decide +kernel
theorem dM_respond_70 : decode cM_respond 70 = .ok (.lor, 1) := by decide +kernel
theorem dM_respond_71 : decode cM_respond 71 = .ok (.putfield 75, 3) := by decide +kernel
theorem dM_respond_74 : decode cM_respond 74 = .ok (.goto 19, 3) := by decide +kernel
theorem dM_respond_77 : decode cM_respond 77 = .ok (.aload_n 0, 1) := by decide +kernel
theorem dM_respond_78 : decode cM_respond 78 = .ok (.dup, 1) := by decide +kernel
theorem dM_respond_79 : decode cM_respond 79 = .ok (.getfield 79, 3) := by decide +kernel
theorem dM_respond_82 : decode cM_respond 82 = .ok (.lconst 1, 1) := by decide +kernel
theorem dM_respond_83 : decode cM_respond 83 = .ok (.iload 6, 2) := by decide +kernel
theorem dM_respond_85 : decode cM_respond 85 = .ok (.bipush 63, 2) := by decide +kernel
theorem dM_respond_87 : decode cM_respond 87 = .ok (.isub, 1) := by decide +kernel
theorem dM_respond_88 : decode cM_respond 88 = .ok (.lshl, 1) := by decide +kernel
theorem dM_respond_89 : decode cM_respond 89 = .ok (.lor, 1) := by decide +kernel
theorem dM_respond_90 : decode cM_respond 90 = .ok (.putfield 79, 3) := by decide +kernel
theorem dM_respond_93 : decode cM_respond 93 = .ok (.iinc 5 1, 3) := by decide +kernel
theorem dM_respond_96 : decode cM_respond 96 = .ok (.goto (-71), 3) := by decide +kernel
theorem dM_respond_99 : decode cM_respond 99 = .ok (.return_, 1) := by decide +kernel
theorem dM_uniform_0 : decode cM_uniform 0 = .ok (.aload_n 0, 1) := by decide +kernel
theorem dM_uniform_1 : decode cM_uniform 1 = .ok (.iload_n 1, 1) := by decide +kernel
theorem dM_uniform_2 : decode cM_uniform 2 = .ok (.iload_n 2, 1) := by decide +kernel
theorem dM_uniform_3 : decode cM_uniform 3 = .ok (.invokevirtual 85, 3) := by decide +kernel
theorem dM_uniform_6 : decode cM_uniform 6 = .ok (.aload_n 0, 1) := by decide +kernel
theorem dM_uniform_7 : decode cM_uniform 7 = .ok (.getfield 75, 3) := by decide +kernel
theorem dM_uniform_10 : decode cM_uniform 10 = .ok (.lstore 4, 2) := by decide +kernel
theorem dM_uniform_12 : decode cM_uniform 12 = .ok (.aload_n 0, 1) := by decide +kernel
theorem dM_uniform_13 : decode cM_uniform 13 = .ok (.getfield 79, 3) := by decide +kernel
theorem dM_uniform_16 : decode cM_uniform 16 = .ok (.lstore 6, 2) := by decide +kernel
theorem dM_uniform_18 : decode cM_uniform 18 = .ok (.iload_n 2, 1) := by decide +kernel
theorem dM_uniform_19 : decode cM_uniform 19 = .ok (.iconst 1, 1) := by decide +kernel
theorem dM_uniform_20 : decode cM_uniform 20 = .ok (.iadd, 1) := by decide +kernel
theorem dM_uniform_21 : decode cM_uniform 21 = .ok (.istore 8, 2) := by decide +kernel
theorem dM_uniform_23 : decode cM_uniform 23 = .ok (.iload 8, 2) := by decide +kernel
theorem dM_uniform_25 : decode cM_uniform 25 = .ok (.iload_n 2, 1) := by decide +kernel
theorem dM_uniform_26 : decode cM_uniform 26 = .ok (.iload_n 3, 1) := by decide +kernel
theorem dM_uniform_27 : decode cM_uniform 27 = .ok (.iadd, 1) := by decide +kernel
theorem dM_uniform_28 : decode cM_uniform 28 = .ok (.if_icmp .ge 38, 3) := by decide +kernel
theorem dM_uniform_31 : decode cM_uniform 31 = .ok (.aload_n 0, 1) := by decide +kernel
theorem dM_uniform_32 : decode cM_uniform 32 = .ok (.iload_n 1, 1) := by decide +kernel
theorem dM_uniform_33 : decode cM_uniform 33 = .ok (.iload 8, 2) := by decide +kernel
theorem dM_uniform_35 : decode cM_uniform 35 = .ok (.invokevirtual 85, 3) := by decide +kernel
theorem dM_uniform_38 : decode cM_uniform 38 = .ok (.aload_n 0, 1) := by decide +kernel
theorem dM_uniform_39 : decode cM_uniform 39 = .ok (.getfield 75, 3) := by decide +kernel
theorem dM_uniform_42 : decode cM_uniform 42 = .ok (.lload 4, 2) := by decide +kernel
theorem dM_uniform_44 : decode cM_uniform 44 = .ok (.lcmp, 1) := by decide +kernel
theorem dM_uniform_45 : decode cM_uniform 45 = .ok (.ifCond .ne 13, 3) := by decide +kernel
theorem dM_uniform_48 : decode cM_uniform 48 = .ok (.aload_n 0, 1) := by decide +kernel
theorem dM_uniform_49 : decode cM_uniform 49 = .ok (.getfield 79, 3) := by decide +kernel
theorem dM_uniform_52 : decode cM_uniform 52 = .ok (.lload 6, 2) := by decide +kernel
theorem dM_uniform_54 : decode cM_uniform 54 = .ok (.lcmp, 1) := by decide +kernel
theorem dM_uniform_55 : decode cM_uniform 55 = .ok (.ifCond .eq 5, 3) := by decide +kernel
theorem dM_uniform_58 : decode cM_uniform 58 = .ok (.iconst 0, 1) := by decide +kernel
theorem dM_uniform_59 : decode cM_uniform 59 = .ok (.ireturn, 1) := by decide +kernel
theorem dM_uniform_60 : decode cM_uniform 60 = .ok (.iinc 8 1, 3) := by decide +kernel
theorem dM_uniform_63 : decode cM_uniform 63 = .ok (.goto (-40), 3) := by decide +kernel
theorem dM_uniform_66 : decode cM_uniform 66 = .ok (.iconst 1, 1) := by decide +kernel
theorem dM_uniform_67 : decode cM_uniform 67 = .ok (.ireturn, 1) := by decide +kernel
theorem dM_table_0 : decode cM_table 0 = .ok (.iconst 0, 1) := by decide +kernel
theorem dM_table_1 : decode cM_table 1 = .ok (.istore_n 2, 1) := by decide +kernel
theorem dM_table_2 : decode cM_table 2 = .ok (.iconst 0, 1) := by decide +kernel
theorem dM_table_3 : decode cM_table 3 = .ok (.istore_n 3, 1) := by decide +kernel
theorem dM_table_4 : decode cM_table 4 = .ok (.iload_n 3, 1) := by decide +kernel
theorem dM_table_5 : decode cM_table 5 = .ok (.bipush 64, 2) := by decide +kernel
theorem dM_table_7 : decode cM_table 7 = .ok (.if_icmp .ge 60, 3) := by decide +kernel
theorem dM_table_10 : decode cM_table 10 = .ok (.bipush 64, 2) := by decide +kernel
theorem dM_table_12 : decode cM_table 12 = .ok (.istore 4, 2) := by decide +kernel
theorem dM_table_14 : decode cM_table 14 = .ok (.iload_n 3, 1) := by decide +kernel
theorem dM_table_15 : decode cM_table 15 = .ok (.iload 4, 2) := by decide +kernel
theorem dM_table_17 : decode cM_table 17 = .ok (.irem, 1) := by decide +kernel
theorem dM_table_18 : decode cM_table 18 = .ok (.ifCond .ne 14, 3) := by decide +kernel
theorem dM_table_21 : decode cM_table 21 = .ok (.aload_n 0, 1) := by decide +kernel
theorem dM_table_22 : decode cM_table 22 = .ok (.iload_n 1, 1) := by decide +kernel
theorem dM_table_23 : decode cM_table 23 = .ok (.iload_n 3, 1) := by decide +kernel
theorem dM_table_24 : decode cM_table 24 = .ok (.iload 4, 2) := by decide +kernel
theorem dM_table_26 : decode cM_table 26 = .ok (.invokevirtual 89, 3) := by decide +kernel
theorem dM_table_29 : decode cM_table 29 = .ok (.ifCond .ne 12, 3) := by decide +kernel
theorem dM_table_32 : decode cM_table 32 = .ok (.iload 4, 2) := by decide +kernel
theorem dM_table_34 : decode cM_table 34 = .ok (.iconst 4, 1) := by decide +kernel
theorem dM_table_35 : decode cM_table 35 = .ok (.idiv, 1) := by decide +kernel
theorem dM_table_36 : decode cM_table 36 = .ok (.istore 4, 2) := by decide +kernel
theorem dM_table_38 : decode cM_table 38 = .ok (.goto (-24), 3) := by decide +kernel
theorem dM_table_41 : decode cM_table 41 = .ok (.aload_n 0, 1) := by decide +kernel
theorem dM_table_42 : decode cM_table 42 = .ok (.getfield 17, 3) := by decide +kernel
theorem dM_table_45 : decode cM_table 45 = .ok (.iload_n 2, 1) := by decide +kernel
theorem dM_table_46 : decode cM_table 46 = .ok (.iload_n 3, 1) := by decide +kernel
theorem dM_table_47 : decode cM_table 47 = .ok (.iastore, 1) := by decide +kernel
theorem dM_table_48 : decode cM_table 48 = .ok (.aload_n 0, 1) := by decide +kernel
theorem dM_table_49 : decode cM_table 49 = .ok (.getfield 21, 3) := by decide +kernel
theorem dM_table_52 : decode cM_table 52 = .ok (.iload_n 2, 1) := by decide +kernel
theorem dM_table_53 : decode cM_table 53 = .ok (.iload 4, 2) := by decide +kernel
theorem dM_table_55 : decode cM_table 55 = .ok (.iastore, 1) := by decide +kernel
theorem dM_table_56 : decode cM_table 56 = .ok (.iinc 2 1, 3) := by decide +kernel
theorem dM_table_59 : decode cM_table 59 = .ok (.iload_n 3, 1) := by decide +kernel
theorem dM_table_60 : decode cM_table 60 = .ok (.iload 4, 2) := by decide +kernel
theorem dM_table_62 : decode cM_table 62 = .ok (.iadd, 1) := by decide +kernel
theorem dM_table_63 : decode cM_table 63 = .ok (.istore_n 3, 1) := by decide +kernel
theorem dM_table_64 : decode cM_table 64 = .ok (.goto (-60), 3) := by decide +kernel
theorem dM_table_67 : decode cM_table 67 = .ok (.iload_n 2, 1) := by decide +kernel
theorem dM_table_68 : decode cM_table 68 = .ok (.ireturn, 1) := by decide +kernel
theorem dM_rules_0 : decode cM_rules 0 = .ok (.aload_n 0, 1) := by decide +kernel
theorem dM_rules_1 : decode cM_rules 1 = .ok (.iconst 0, 1) := by decide +kernel
theorem dM_rules_2 : decode cM_rules 2 = .ok (.putfield 24, 3) := by decide +kernel
theorem dM_rules_5 : decode cM_rules 5 = .ok (.aload_n 0, 1) := by decide +kernel
theorem dM_rules_6 : decode cM_rules 6 = .ok (.iload_n 1, 1) := by decide +kernel
theorem dM_rules_7 : decode cM_rules 7 = .ok (.invokevirtual 51, 3) := by decide +kernel
theorem dM_rules_10 : decode cM_rules 10 = .ok (.ifCond .eq 11, 3) := by decide +kernel
theorem dM_rules_13 : decode cM_rules 13 = .ok (.aload_n 0, 1) := by decide +kernel
theorem dM_rules_14 : decode cM_rules 14 = .ok (.iload_n 1, 1) := by decide +kernel
theorem dM_rules_15 : decode cM_rules 15 = .ok (.invokevirtual 92, 3) := by decide +kernel
theorem dM_rules_18 : decode cM_rules 18 = .ok (.goto 8, 3) := by decide +kernel
theorem dM_rules_21 : decode cM_rules 21 = .ok (.aload_n 0, 1) := by decide +kernel
theorem dM_rules_22 : decode cM_rules 22 = .ok (.iconst 1, 1) := by decide +kernel
theorem dM_rules_23 : decode cM_rules 23 = .ok (.invokevirtual 59, 3) := by decide +kernel
theorem dM_rules_26 : decode cM_rules 26 = .ok (.ireturn, 1) := by decide +kernel
theorem dM_ones_0 : decode cM_ones 0 = .ok (.iconst 0, 1) := by decide +kernel
theorem dM_ones_1 : decode cM_ones 1 = .ok (.istore_n 2, 1) := by decide +kernel
theorem dM_ones_2 : decode cM_ones 2 = .ok (.iconst 0, 1) := by decide +kernel
theorem dM_ones_3 : decode cM_ones 3 = .ok (.istore_n 3, 1) := by decide +kernel
theorem dM_ones_4 : decode cM_ones 4 = .ok (.iload_n 3, 1) := by decide +kernel
theorem dM_ones_5 : decode cM_ones 5 = .ok (.bipush 64, 2) := by decide +kernel
theorem dM_ones_7 : decode cM_ones 7 = .ok (.if_icmp .ge 22, 3) := by decide +kernel
theorem dM_ones_10 : decode cM_ones 10 = .ok (.lload_n 0, 1) := by decide +kernel
theorem dM_ones_11 : decode cM_ones 11 = .ok (.iload_n 3, 1) := by decide +kernel
theorem dM_ones_12 : decode cM_ones 12 = .ok (.lshr, 1) := by decide +kernel
theorem dM_ones_13 : decode cM_ones 13 = .ok (.lconst 1, 1) := by decide +kernel
theorem dM_ones_14 : decode cM_ones 14 = .ok (.land, 1) := by decide +kernel
theorem dM_ones_15 : decode cM_ones 15 = .ok (.lconst 0, 1) := by decide +kernel
theorem dM_ones_16 : decode cM_ones 16 = .ok (.lcmp, 1) := by decide +kernel
theorem dM_ones_17 : decode cM_ones 17 = .ok (.ifCond .eq 6, 3) := by decide +kernel
theorem dM_ones_20 : decode cM_ones 20 = .ok (.iinc 2 1, 3) := by decide +kernel
theorem dM_ones_23 : decode cM_ones 23 = .ok (.iinc 3 1, 3) := by decide +kernel
theorem dM_ones_26 : decode cM_ones 26 = .ok (.goto (-22), 3) := by decide +kernel
theorem dM_ones_29 : decode cM_ones 29 = .ok (.iload_n 2, 1) := by decide +kernel
theorem dM_ones_30 : decode cM_ones 30 = .ok (.ireturn, 1) := by decide +kernel
theorem dM_rule_0 : decode cM_rule 0 = .ok (.aload_n 0, 1) := by decide +kernel
theorem dM_rule_1 : decode cM_rule 1 = .ok (.iconst 0, 1) := by decide +kernel
theorem dM_rule_2 : decode cM_rule 2 = .ok (.putfield 24, 3) := by decide +kernel
theorem dM_rule_5 : decode cM_rule 5 = .ok (.aload_n 0, 1) := by decide +kernel
theorem dM_rule_6 : decode cM_rule 6 = .ok (.iload_n 1, 1) := by decide +kernel
theorem dM_rule_7 : decode cM_rule 7 = .ok (.invokevirtual 51, 3) := by decide +kernel
theorem dM_rule_10 : decode cM_rule 10 = .ok (.ifCond .eq 16, 3) := by decide +kernel
theorem dM_rule_13 : decode cM_rule 13 = .ok (.iload_n 2, 1) := by decide +kernel
theorem dM_rule_14 : decode cM_rule 14 = .ok (.ifCond .lt 12, 3) := by decide +kernel
theorem dM_rule_17 : decode cM_rule 17 = .ok (.iload_n 2, 1) := by decide +kernel
theorem dM_rule_18 : decode cM_rule 18 = .ok (.aload_n 0, 1) := by decide +kernel
theorem dM_rule_19 : decode cM_rule 19 = .ok (.iload_n 1, 1) := by decide +kernel
theorem dM_rule_20 : decode cM_rule 20 = .ok (.invokevirtual 92, 3) := by decide +kernel
theorem dM_rule_23 : decode cM_rule 23 = .ok (.if_icmp .lt 9, 3) := by decide +kernel
theorem dM_rule_26 : decode cM_rule 26 = .ok (.aload_n 0, 1) := by decide +kernel
theorem dM_rule_27 : decode cM_rule 27 = .ok (.iconst 1, 1) := by decide +kernel
theorem dM_rule_28 : decode cM_rule 28 = .ok (.invokevirtual 59, 3) := by decide +kernel
theorem dM_rule_31 : decode cM_rule 31 = .ok (.ireturn, 1) := by decide +kernel
theorem dM_rule_32 : decode cM_rule 32 = .ok (.aload_n 0, 1) := by decide +kernel
theorem dM_rule_33 : decode cM_rule 33 = .ok (.getfield 17, 3) := by decide +kernel
theorem dM_rule_36 : decode cM_rule 36 = .ok (.iload_n 2, 1) := by decide +kernel
theorem dM_rule_37 : decode cM_rule 37 = .ok (.iaload, 1) := by decide +kernel
theorem dM_rule_38 : decode cM_rule 38 = .ok (.istore 4, 2) := by decide +kernel
theorem dM_rule_40 : decode cM_rule 40 = .ok (.iload_n 3, 1) := by decide +kernel
theorem dM_rule_41 : decode cM_rule 41 = .ok (.tableswitch 112 0 3 #[31, 53, 75, 96], 31) := by decide +kernel
theorem dM_rule_72 : decode cM_rule 72 = .ok (.aload_n 0, 1) := by decide +kernel
theorem dM_rule_73 : decode cM_rule 73 = .ok (.getfield 21, 3) := by decide +kernel
theorem dM_rule_76 : decode cM_rule 76 = .ok (.iload_n 2, 1) := by decide +kernel
theorem dM_rule_77 : decode cM_rule 77 = .ok (.iaload, 1) := by decide +kernel
theorem dM_rule_78 : decode cM_rule 78 = .ok (.bipush 64, 2) := by decide +kernel
theorem dM_rule_80 : decode cM_rule 80 = .ok (.if_icmp .ge 12, 3) := by decide +kernel
theorem dM_rule_83 : decode cM_rule 83 = .ok (.iload 4, 2) := by decide +kernel
theorem dM_rule_85 : decode cM_rule 85 = .ok (.iconst 0, 1) := by decide +kernel
theorem dM_rule_86 : decode cM_rule 86 = .ok (.invokestatic 35, 3) := by decide +kernel
theorem dM_rule_89 : decode cM_rule 89 = .ok (.goto 4, 3) := by decide +kernel
theorem dM_rule_92 : decode cM_rule 92 = .ok (.iconst (-1), 1) := by decide +kernel
theorem dM_rule_93 : decode cM_rule 93 = .ok (.ireturn, 1) := by decide +kernel
theorem dM_rule_94 : decode cM_rule 94 = .ok (.aload_n 0, 1) := by decide +kernel
theorem dM_rule_95 : decode cM_rule 95 = .ok (.getfield 21, 3) := by decide +kernel
theorem dM_rule_98 : decode cM_rule 98 = .ok (.iload_n 2, 1) := by decide +kernel
theorem dM_rule_99 : decode cM_rule 99 = .ok (.iaload, 1) := by decide +kernel
theorem dM_rule_100 : decode cM_rule 100 = .ok (.bipush 16, 2) := by decide +kernel
theorem dM_rule_102 : decode cM_rule 102 = .ok (.if_icmp .ge 12, 3) := by decide +kernel
theorem dM_rule_105 : decode cM_rule 105 = .ok (.iload 4, 2) := by decide +kernel
theorem dM_rule_107 : decode cM_rule 107 = .ok (.iconst 1, 1) := by decide +kernel
theorem dM_rule_108 : decode cM_rule 108 = .ok (.invokestatic 35, 3) := by decide +kernel
theorem dM_rule_111 : decode cM_rule 111 = .ok (.goto 4, 3) := by decide +kernel
theorem dM_rule_114 : decode cM_rule 114 = .ok (.iconst (-1), 1) := by decide +kernel
theorem dM_rule_115 : decode cM_rule 115 = .ok (.ireturn, 1) := by decide +kernel
theorem dM_rule_116 : decode cM_rule 116 = .ok (.aload_n 0, 1) := by decide +kernel
theorem dM_rule_117 : decode cM_rule 117 = .ok (.getfield 21, 3) := by decide +kernel
theorem dM_rule_120 : decode cM_rule 120 = .ok (.iload_n 2, 1) := by decide +kernel
theorem dM_rule_121 : decode cM_rule 121 = .ok (.iaload, 1) := by decide +kernel
theorem dM_rule_122 : decode cM_rule 122 = .ok (.iconst 4, 1) := by decide +kernel
theorem dM_rule_123 : decode cM_rule 123 = .ok (.if_icmp .ge 12, 3) := by decide +kernel
theorem dM_rule_126 : decode cM_rule 126 = .ok (.iload 4, 2) := by decide +kernel
theorem dM_rule_128 : decode cM_rule 128 = .ok (.iconst 2, 1) := by decide +kernel
theorem dM_rule_129 : decode cM_rule 129 = .ok (.invokestatic 35, 3) := by decide +kernel
theorem dM_rule_132 : decode cM_rule 132 = .ok (.goto 4, 3) := by decide +kernel
theorem dM_rule_135 : decode cM_rule 135 = .ok (.iconst (-1), 1) := by decide +kernel
theorem dM_rule_136 : decode cM_rule 136 = .ok (.ireturn, 1) := by decide +kernel
theorem dM_rule_137 : decode cM_rule 137 = .ok (.aload_n 0, 1) := by decide +kernel
theorem dM_rule_138 : decode cM_rule 138 = .ok (.getfield 7, 3) := by decide +kernel
theorem dM_rule_141 : decode cM_rule 141 = .ok (.bipush 64, 2) := by decide +kernel
theorem dM_rule_143 : decode cM_rule 143 = .ok (.iload_n 1, 1) := by decide +kernel
theorem dM_rule_144 : decode cM_rule 144 = .ok (.imul, 1) := by decide +kernel
theorem dM_rule_145 : decode cM_rule 145 = .ok (.iload 4, 2) := by decide +kernel
theorem dM_rule_147 : decode cM_rule 147 = .ok (.iadd, 1) := by decide +kernel
theorem dM_rule_148 : decode cM_rule 148 = .ok (.laload, 1) := by decide +kernel
theorem dM_rule_149 : decode cM_rule 149 = .ok (.invokestatic 95, 3) := by decide +kernel
theorem dM_rule_152 : decode cM_rule 152 = .ok (.ireturn, 1) := by decide +kernel
theorem dM_rule_153 : decode cM_rule 153 = .ok (.aload_n 0, 1) := by decide +kernel
theorem dM_rule_154 : decode cM_rule 154 = .ok (.iconst 2, 1) := by decide +kernel
theorem dM_rule_155 : decode cM_rule 155 = .ok (.invokevirtual 59, 3) := by decide +kernel
theorem dM_rule_158 : decode cM_rule 158 = .ok (.ireturn, 1) := by decide +kernel
theorem dM_match_0 : decode cM_match 0 = .ok (.aload_n 0, 1) := by decide +kernel
theorem dM_match_1 : decode cM_match 1 = .ok (.iconst 0, 1) := by decide +kernel
theorem dM_match_2 : decode cM_match 2 = .ok (.putfield 24, 3) := by decide +kernel
theorem dM_match_5 : decode cM_match 5 = .ok (.aload_n 0, 1) := by decide +kernel
theorem dM_match_6 : decode cM_match 6 = .ok (.iload_n 1, 1) := by decide +kernel
theorem dM_match_7 : decode cM_match 7 = .ok (.invokevirtual 51, 3) := by decide +kernel
theorem dM_match_10 : decode cM_match 10 = .ok (.ifCond .ne 9, 3) := by decide +kernel
theorem dM_match_13 : decode cM_match 13 = .ok (.aload_n 0, 1) := by decide +kernel
theorem dM_match_14 : decode cM_match 14 = .ok (.iconst 1, 1) := by decide +kernel
theorem dM_match_15 : decode cM_match 15 = .ok (.invokevirtual 59, 3) := by decide +kernel
theorem dM_match_18 : decode cM_match 18 = .ok (.ireturn, 1) := by decide +kernel
theorem dM_match_19 : decode cM_match 19 = .ok (.iload_n 2, 1) := by decide +kernel
theorem dM_match_20 : decode cM_match 20 = .ok (.iconst 0, 1) := by decide +kernel
theorem dM_match_21 : decode cM_match 21 = .ok (.bipush 63, 2) := by decide +kernel
theorem dM_match_23 : decode cM_match 23 = .ok (.invokestatic 31, 3) := by decide +kernel
theorem dM_match_26 : decode cM_match 26 = .ok (.ifCond .ne 9, 3) := by decide +kernel
theorem dM_match_29 : decode cM_match 29 = .ok (.aload_n 0, 1) := by decide +kernel
theorem dM_match_30 : decode cM_match 30 = .ok (.iconst 2, 1) := by decide +kernel
theorem dM_match_31 : decode cM_match 31 = .ok (.invokevirtual 59, 3) := by decide +kernel
theorem dM_match_34 : decode cM_match 34 = .ok (.ireturn, 1) := by decide +kernel
theorem dM_match_35 : decode cM_match 35 = .ok (.aload_n 0, 1) := by decide +kernel
theorem dM_match_36 : decode cM_match 36 = .ok (.iload_n 1, 1) := by decide +kernel
theorem dM_match_37 : decode cM_match 37 = .ok (.invokevirtual 92, 3) := by decide +kernel
theorem dM_match_40 : decode cM_match 40 = .ok (.istore_n 3, 1) := by decide +kernel
theorem dM_match_41 : decode cM_match 41 = .ok (.iconst 0, 1) := by decide +kernel
theorem dM_match_42 : decode cM_match 42 = .ok (.istore 4, 2) := by decide +kernel
theorem dM_match_44 : decode cM_match 44 = .ok (.iload 4, 2) := by decide +kernel
theorem dM_match_46 : decode cM_match 46 = .ok (.iload_n 3, 1) := by decide +kernel
theorem dM_match_47 : decode cM_match 47 = .ok (.if_icmp .ge 31, 3) := by decide +kernel
theorem dM_match_50 : decode cM_match 50 = .ok (.iload_n 2, 1) := by decide +kernel
theorem dM_match_51 : decode cM_match 51 = .ok (.aload_n 0, 1) := by decide +kernel
theorem dM_match_52 : decode cM_match 52 = .ok (.getfield 17, 3) := by decide +kernel
theorem dM_match_55 : decode cM_match 55 = .ok (.iload 4, 2) := by decide +kernel
theorem dM_match_57 : decode cM_match 57 = .ok (.iaload, 1) := by decide +kernel
theorem dM_match_58 : decode cM_match 58 = .ok (.aload_n 0, 1) := by decide +kernel
theorem dM_match_59 : decode cM_match 59 = .ok (.getfield 21, 3) := by decide +kernel
theorem dM_match_62 : decode cM_match 62 = .ok (.iload 4, 2) := by decide +kernel
theorem dM_match_64 : decode cM_match 64 = .ok (.iaload, 1) := by decide +kernel
theorem dM_match_65 : decode cM_match 65 = .ok (.iadd, 1) := by decide +kernel
theorem dM_match_66 : decode cM_match 66 = .ok (.if_icmp .ge 6, 3) := by decide +kernel
theorem dM_match_69 : decode cM_match 69 = .ok (.iload 4, 2) := by decide +kernel
theorem dM_match_71 : decode cM_match 71 = .ok (.ireturn, 1) := by decide +kernel
theorem dM_match_72 : decode cM_match 72 = .ok (.iinc 4 1, 3) := by decide +kernel
theorem dM_match_75 : decode cM_match 75 = .ok (.goto (-31), 3) := by decide +kernel
theorem dM_match_78 : decode cM_match 78 = .ok (.iconst 0, 1) := by decide +kernel
theorem dM_match_79 : decode cM_match 79 = .ok (.ireturn, 1) := by decide +kernel
theorem dM_hops_0 : decode cM_hops 0 = .ok (.aload_n 0, 1) := by decide +kernel
theorem dM_hops_1 : decode cM_hops 1 = .ok (.iconst 0, 1) := by decide +kernel
theorem dM_hops_2 : decode cM_hops 2 = .ok (.putfield 24, 3) := by decide +kernel
theorem dM_hops_5 : decode cM_hops 5 = .ok (.aload_n 0, 1) := by decide +kernel
theorem dM_hops_6 : decode cM_hops 6 = .ok (.iload_n 1, 1) := by decide +kernel
theorem dM_hops_7 : decode cM_hops 7 = .ok (.invokevirtual 51, 3) := by decide +kernel
theorem dM_hops_10 : decode cM_hops 10 = .ok (.ifCond .ne 9, 3) := by decide +kernel
theorem dM_hops_13 : decode cM_hops 13 = .ok (.aload_n 0, 1) := by decide +kernel
theorem dM_hops_14 : decode cM_hops 14 = .ok (.iconst 1, 1) := by decide +kernel
theorem dM_hops_15 : decode cM_hops 15 = .ok (.invokevirtual 59, 3) := by decide +kernel
theorem dM_hops_18 : decode cM_hops 18 = .ok (.ireturn, 1) := by decide +kernel
theorem dM_hops_19 : decode cM_hops 19 = .ok (.iload_n 2, 1) := by decide +kernel
theorem dM_hops_20 : decode cM_hops 20 = .ok (.iconst 0, 1) := by decide +kernel
theorem dM_hops_21 : decode cM_hops 21 = .ok (.bipush 63, 2) := by decide +kernel
theorem dM_hops_23 : decode cM_hops 23 = .ok (.invokestatic 31, 3) := by decide +kernel
theorem dM_hops_26 : decode cM_hops 26 = .ok (.ifCond .ne 9, 3) := by decide +kernel
theorem dM_hops_29 : decode cM_hops 29 = .ok (.aload_n 0, 1) := by decide +kernel
theorem dM_hops_30 : decode cM_hops 30 = .ok (.iconst 2, 1) := by decide +kernel
theorem dM_hops_31 : decode cM_hops 31 = .ok (.invokevirtual 59, 3) := by decide +kernel
theorem dM_hops_34 : decode cM_hops 34 = .ok (.ireturn, 1) := by decide +kernel
theorem dM_hops_35 : decode cM_hops 35 = .ok (.lconst 1, 1) := by decide +kernel
theorem dM_hops_36 : decode cM_hops 36 = .ok (.iload_n 2, 1) := by decide +kernel
theorem dM_hops_37 : decode cM_hops 37 = .ok (.lshl, 1) := by decide +kernel
theorem dM_hops_38 : decode cM_hops 38 = .ok (.lstore 5, 2) := by decide +kernel
theorem dM_hops_40 : decode cM_hops 40 = .ok (.iconst 0, 1) := by decide +kernel
theorem dM_hops_41 : decode cM_hops 41 = .ok (.istore 7, 2) := by decide +kernel
theorem dM_hops_43 : decode cM_hops 43 = .ok (.iload 7, 2) := by decide +kernel
theorem dM_hops_45 : decode cM_hops 45 = .ok (.bipush 65, 2) := by decide +kernel
theorem dM_hops_47 : decode cM_hops 47 = .ok (.if_icmp .ge 30, 3) := by decide +kernel
theorem dM_hops_50 : decode cM_hops 50 = .ok (.lload 5, 2) := by decide +kernel
theorem dM_hops_52 : decode cM_hops 52 = .ok (.lload_n 3, 1) := by decide +kernel
theorem dM_hops_53 : decode cM_hops 53 = .ok (.land, 1) := by decide +kernel
theorem dM_hops_54 : decode cM_hops 54 = .ok (.lconst 0, 1) := by decide +kernel
theorem dM_hops_55 : decode cM_hops 55 = .ok (.lcmp, 1) := by decide +kernel
theorem dM_hops_56 : decode cM_hops 56 = .ok (.ifCond .eq 6, 3) := by decide +kernel
theorem dM_hops_59 : decode cM_hops 59 = .ok (.iload 7, 2) := by decide +kernel
theorem dM_hops_61 : decode cM_hops 61 = .ok (.ireturn, 1) := by decide +kernel
theorem dM_hops_62 : decode cM_hops 62 = .ok (.aload_n 0, 1) := by decide +kernel
theorem dM_hops_63 : decode cM_hops 63 = .ok (.iload_n 1, 1) := by decide +kernel
theorem dM_hops_64 : decode cM_hops 64 = .ok (.lload 5, 2) := by decide +kernel
theorem dM_hops_66 : decode cM_hops 66 = .ok (.invokevirtual 39, 3) := by decide +kernel
theorem dM_hops_69 : decode cM_hops 69 = .ok (.lstore 5, 2) := by decide +kernel
theorem dM_hops_71 : decode cM_hops 71 = .ok (.iinc 7 1, 3) := by decide +kernel
theorem dM_hops_74 : decode cM_hops 74 = .ok (.goto (-31), 3) := by decide +kernel
theorem dM_hops_77 : decode cM_hops 77 = .ok (.iconst (-1), 1) := by decide +kernel
theorem dM_hops_78 : decode cM_hops 78 = .ok (.ireturn, 1) := by decide +kernel
theorem dM_count_0 : decode cM_count 0 = .ok (.aload_n 0, 1) := by decide +kernel
theorem dM_count_1 : decode cM_count 1 = .ok (.iconst 0, 1) := by decide +kernel
theorem dM_count_2 : decode cM_count 2 = .ok (.putfield 24, 3) := by decide +kernel
theorem dM_count_5 : decode cM_count 5 = .ok (.iload_n 1, 1) := by decide +kernel
theorem dM_count_6 : decode cM_count 6 = .ok (.ifCond .ne 8, 3) := by decide +kernel
theorem dM_count_9 : decode cM_count 9 = .ok (.aload_n 0, 1) := by decide +kernel
theorem dM_count_10 : decode cM_count 10 = .ok (.getfield 28, 3) := by decide +kernel
theorem dM_count_13 : decode cM_count 13 = .ok (.ireturn, 1) := by decide +kernel
theorem dM_count_14 : decode cM_count 14 = .ok (.iload_n 1, 1) := by decide +kernel
theorem dM_count_15 : decode cM_count 15 = .ok (.iconst 1, 1) := by decide +kernel
theorem dM_count_16 : decode cM_count 16 = .ok (.if_icmp .eq 9, 3) := by decide +kernel
theorem dM_count_19 : decode cM_count 19 = .ok (.aload_n 0, 1) := by decide +kernel
theorem dM_count_20 : decode cM_count 20 = .ok (.iconst 1, 1) := by decide +kernel
theorem dM_count_21 : decode cM_count 21 = .ok (.invokevirtual 59, 3) := by decide +kernel
theorem dM_count_24 : decode cM_count 24 = .ok (.ireturn, 1) := by decide +kernel
theorem dM_count_25 : decode cM_count 25 = .ok (.iconst 0, 1) := by decide +kernel
theorem dM_count_26 : decode cM_count 26 = .ok (.istore_n 2, 1) := by decide +kernel
theorem dM_count_27 : decode cM_count 27 = .ok (.iconst 0, 1) := by decide +kernel
theorem dM_count_28 : decode cM_count 28 = .ok (.istore_n 3, 1) := by decide +kernel
theorem dM_count_29 : decode cM_count 29 = .ok (.iload_n 3, 1) := by decide +kernel
theorem dM_count_30 : decode cM_count 30 = .ok (.aload_n 0, 1) := by decide +kernel
theorem dM_count_31 : decode cM_count 31 = .ok (.getfield 28, 3) := by decide +kernel
theorem dM_count_34 : decode cM_count 34 = .ok (.if_icmp .ge 39, 3) := by decide +kernel
theorem dM_count_37 : decode cM_count 37 = .ok (.iconst 0, 1) := by decide +kernel
theorem dM_count_38 : decode cM_count 38 = .ok (.istore 4, 2) := by decide +kernel
theorem dM_count_40 : decode cM_count 40 = .ok (.aload_n 0, 1) := by decide +kernel
theorem dM_count_41 : decode cM_count 41 = .ok (.iload_n 3, 1) := by decide +kernel
theorem dM_count_42 : decode cM_count 42 = .ok (.iload 4, 2) := by decide +kernel
theorem dM_count_44 : decode cM_count 44 = .ok (.invokevirtual 70, 3) := by decide +kernel
theorem dM_count_47 : decode cM_count 47 = .ok (.bipush 64, 2) := by decide +kernel
theorem dM_count_49 : decode cM_count 49 = .ok (.if_icmp .ge 9, 3) := by decide +kernel
theorem dM_count_52 : decode cM_count 52 = .ok (.iinc 4 1, 3) := by decide +kernel
theorem dM_count_55 : decode cM_count 55 = .ok (.goto (-15), 3) := by decide +kernel
theorem dM_count_58 : decode cM_count 58 = .ok (.iload 4, 2) := by decide +kernel
theorem dM_count_60 : decode cM_count 60 = .ok (.iload_n 3, 1) := by decide +kernel
theorem dM_count_61 : decode cM_count 61 = .ok (.if_icmp .ne 6, 3) := by decide +kernel
theorem dM_count_64 : decode cM_count 64 = .ok (.iinc 2 1, 3) := by decide +kernel
theorem dM_count_67 : decode cM_count 67 = .ok (.iinc 3 1, 3) := by decide +kernel
theorem dM_count_70 : decode cM_count 70 = .ok (.goto (-41), 3) := by decide +kernel
theorem dM_count_73 : decode cM_count 73 = .ok (.iload_n 2, 1) := by decide +kernel
theorem dM_count_74 : decode cM_count 74 = .ok (.ireturn, 1) := by decide +kernel
end
section
/-! bits of longs; unions; steps -/
def hbit (x : Int64) (k : Nat) : Bool := x.toBitVec.getLsbD k
def bI (b : Bool) : Int32 := if b then 1 else 0
theorem bI_t : bI true = 1 := rfl
theorem bI_f : bI false = 0 := rfl
theorem bI_ne {b : Bool} : ¬ bI b = 0 ↔ b = true := by cases b <;> decide
theorem bI_eq {b : Bool} : bI b = 0 ↔ b = false := by cases b <;> decide
theorem bI_cases (b : Bool) : bI b = 0 ∨ bI b = 1 := by cases b <;> decide
theorem bI_nar (b : Bool) : narrow .boolean (.int (bI b)) = .int (bI b) := by cases b <;> rfl
theorem bI_fit (b : Bool) : fits .boolean (.int (bI b)) = true := by cases b <;> rfl
theorem hb_ext {x y : Int64} (h : ∀ k, k < 64 → hbit x k = hbit y k) : x = y := by
  rw [← Int64.toBitVec_inj]
  exact BitVec.eq_of_getLsbD_eq (fun i hi => h i hi)
theorem hb_big (x : Int64) {k : Nat} (h : 64 ≤ k) : hbit x k = false := BitVec.getLsbD_of_ge _ _ h
theorem hb_or (x y : Int64) (k : Nat) : hbit (x ||| y) k = (hbit x k || hbit y k) := by
  unfold hbit
  rw [Int64.toBitVec_or, BitVec.getLsbD_or]
theorem hb_and (x y : Int64) (k : Nat) : hbit (x &&& y) k = (hbit x k && hbit y k) := by
  unfold hbit
  rw [Int64.toBitVec_and, BitVec.getLsbD_and]
theorem hb_0 (k : Nat) : hbit 0 k = false := by
  unfold hbit
  show (0#64).getLsbD k = false
  simp
theorem hb_ne0 {x : Int64} : ¬ x = 0 ↔ ∃ k, k < 64 ∧ hbit x k = true := by
  constructor
  · intro h
    apply Classical.byContradiction
    intro h2
    apply h
    apply hb_ext
    intro k hk
    rw [hb_0]
    cases hx : hbit x k with
    | false => rfl
    | true => exact absurd ⟨k, hk, hx⟩ h2
  · rintro ⟨k, hk, h⟩ e
    rw [e, hb_0] at h
    cases h
theorem hb_not (x : Int64) {k : Nat} (hk : k < 64) : hbit (x ^^^ (-1)) k = !hbit x k := by
  unfold hbit
  rw [Int64.toBitVec_xor, BitVec.getLsbD_xor]
  have : (-1 : Int64).toBitVec = BitVec.allOnes 64 := by decide +kernel
  rw [this, BitVec.getLsbD_allOnes]
  simp [hk]
theorem cmp0 (x y : Int64) : lg_cmp x y = 0 ↔ x = y := by
  unfold lg_cmp
  by_cases h1 : x > y
  · rw [if_pos h1]
    constructor
    · intro h
      exact absurd h (by decide)
    · intro h
      subst h
      exact absurd h1 (Int64.lt_irrefl)
  · rw [if_neg h1]
    by_cases h2 : x = y
    · rw [if_pos h2]
      exact ⟨fun _ => h2, fun _ => rfl⟩
    · rw [if_neg h2]
      exact ⟨fun h => absurd h (by decide), fun h => absurd h h2⟩
theorem sh_u : ∀ k, k < 64 → ((nI k).toInt64.toUInt64 &&& Int64.toUInt64 63).toNat = k := by decide +kernel
theorem hb_shr (x : Int64) {k : Nat} (hk : k < 64) : ((x.toUInt64 >>> ((nI k).toInt64.toUInt64 &&& Int64.toUInt64 63)).toInt64 &&& 1) = 0 ↔ hbit x k = false := by
  generalize hs : ((nI k).toInt64.toUInt64 &&& Int64.toUInt64 63) = sh
  have hs' : sh.toNat = k := by rw [← hs]; exact sh_u k hk
  have e : (x.toUInt64 >>> sh).toInt64.toBitVec = x.toBitVec >>> k := by
    apply BitVec.eq_of_toNat_eq
    show (x.toUInt64 >>> sh).toNat = _
    rw [UInt64.toNat_shiftRight, hs', Nat.mod_eq_of_lt hk, BitVec.toNat_ushiftRight]
    rfl
  rw [← Int64.toBitVec_inj, Int64.toBitVec_and, e]
  show x.toBitVec >>> k &&& 1#64 = 0#64 ↔ x.toBitVec.getLsbD k = false
  constructor
  · intro h
    have t := congrArg (fun z => z.getLsbD 0) h
    simpa using t
  · intro h
    apply BitVec.eq_of_getLsbD_eq
    intro i hi
    by_cases h0 : i = 0
    · subst h0
      simpa using h
    · rw [BitVec.getLsbD_and, BitVec.getLsbD_one]
      simp [h0]
/-- the set of one packet -/
def one (k : Nat) : Int64 := (1 : Int64) <<< ((nI k).toInt64 &&& 63)
theorem one_bv : ∀ k, k < 64 → (one k).toBitVec = BitVec.twoPow 64 k := by decide +kernel
theorem hb_one {k : Nat} (hk : k < 64) (j : Nat) : hbit (one k) j = decide (j = k) := by
  unfold hbit
  rw [one_bv k hk, BitVec.getLsbD_twoPow]
  by_cases h : j = k
  · subst h
    simp [hk]
  · simp [h, hk, Ne.symm h]
/-- what is given for the packets below n of a set -/
def gf (f : Nat → Int64) (z : Int64) : Nat → Int64
  | 0 => 0
  | n + 1 => if hbit z n = true then gf f z n ||| f n else gf f z n
theorem gf_bit (f : Nat → Int64) (z : Int64) (j : Nat) : ∀ n, hbit (gf f z n) j = true ↔ ∃ i, i < n ∧ hbit z i = true ∧ hbit (f i) j = true := by
  intro n
  induction n with
  | zero =>
    simp [gf, hb_0]
  | succ n ih =>
    unfold gf
    by_cases h : hbit z n = true
    · rw [if_pos h, hb_or, Bool.or_eq_true, ih]
      constructor
      · rintro (⟨i, h1, h2, h3⟩ | h3)
        · exact ⟨i, by omega, h2, h3⟩
        · exact ⟨n, by omega, h, h3⟩
      · rintro ⟨i, h1, h2, h3⟩
        by_cases hi : i = n
        · subst hi
          exact Or.inr h3
        · exact Or.inl ⟨i, by omega, h2, h3⟩
    · rw [if_neg h, ih]
      constructor
      · rintro ⟨i, h1, h2, h3⟩
        exact ⟨i, by omega, h2, h3⟩
      · rintro ⟨i, h1, h2, h3⟩
        by_cases hi : i = n
        · subst hi
          exact absurd h2 h
        · exact ⟨i, by omega, h2, h3⟩
theorem gf_ext {f g : Nat → Int64} {z : Int64} : ∀ {n : Nat}, (∀ i, i < n → f i = g i) → gf f z n = gf g z n := by
  intro n
  induction n with
  | zero => intro _; rfl
  | succ n ih =>
    intro h
    unfold gf
    rw [ih (fun i hi => h i (by omega)), h n (by omega)]
/-- steps of any number: in every set that has p and is closed -/
def Rch (f : Nat → Int64) (p j : Nat) : Prop := ∀ S : Nat → Prop, S p → (∀ q r, q < 64 → r < 64 → S q → hbit (f q) r = true → S r) → S j
theorem Rch.rf {f : Nat → Int64} {p : Nat} : Rch f p p := fun _ h _ => h
theorem Rch.tr {f : Nat → Int64} {p q j : Nat} (h1 : Rch f p q) (h2 : Rch f q j) : Rch f p j := fun S hp hc => h2 S (h1 S hp hc) hc
theorem Rch.st {f : Nat → Int64} {p j : Nat} (hp : p < 64) (hj : j < 64) (h : hbit (f p) j = true) : Rch f p j := fun S h1 hc => hc p j hp hj h1 h
/-- midway stops below m -/
def wc (f : Nat → Int64) : Nat → Nat → Nat → Bool
  | 0 => fun p j => decide (p = j) || hbit (f p) j
  | m + 1 => fun p j => wc f m p j || (wc f m p m && wc f m m j)
theorem wc_s {f : Nat → Int64} {m p j : Nat} : wc f (m + 1) p j = true ↔ wc f m p j = true ∨ (wc f m p m = true ∧ wc f m m j = true) := by
  show (wc f m p j || (wc f m p m && wc f m m j)) = true ↔ _
  rw [Bool.or_eq_true, Bool.and_eq_true]
theorem wc_up {f : Nat → Int64} {p j : Nat} (h : wc f 0 p j = true) : ∀ m, wc f m p j = true := by
  intro m
  induction m with
  | zero => exact h
  | succ m ih => exact wc_s.mpr (Or.inl ih)
theorem wc_tr {f : Nat → Int64} : ∀ m p q j, q < m → wc f m p q = true → wc f m q j = true → wc f m p j = true := by
  intro m
  induction m with
  | zero => intro p q j h; omega
  | succ m ih =>
    intro p q j hq h1 h2
    rw [wc_s] at h1 h2 ⊢
    by_cases hm : q = m
    · subst hm
      refine Or.inr ⟨?_, ?_⟩
      · rcases h1 with h | h
        · exact h
        · exact h.1
      · rcases h2 with h | h
        · exact h
        · exact h.2
    · have hlt : q < m := by omega
      rcases h1 with h1 | ⟨h1, h1'⟩ <;> rcases h2 with h2 | ⟨h2, h2'⟩
      · exact Or.inl (ih p q j hlt h1 h2)
      · exact Or.inr ⟨ih p q m hlt h1 h2, h2'⟩
      · exact Or.inr ⟨h1, ih m q j hlt h1' h2⟩
      · exact Or.inr ⟨h1, h2'⟩
theorem wc_snd {f : Nat → Int64} : ∀ m p j, m ≤ 64 → p < 64 → j < 64 → wc f m p j = true → Rch f p j := by
  intro m
  induction m with
  | zero =>
    intro p j _ hp hj h
    have h : (decide (p = j) || hbit (f p) j) = true := h
    rw [Bool.or_eq_true, decide_eq_true_eq] at h
    rcases h with h | h
    · subst h
      exact Rch.rf
    · exact Rch.st hp hj h
  | succ m ih =>
    intro p j hm hp hj h
    rw [wc_s] at h
    rcases h with h | ⟨h1, h2⟩
    · exact ih p j (by omega) hp hj h
    · exact (ih p m (by omega) hp (by omega) h1).tr (ih m j (by omega) (by omega) hj h2)
theorem wc_iff {f : Nat → Int64} {p j : Nat} (hp : p < 64) (hj : j < 64) : wc f 64 p j = true ↔ Rch f p j := by
  constructor
  · exact wc_snd 64 p j (Nat.le_refl _) hp hj
  · intro h
    refine h (fun x => wc f 64 p x = true) ?_ ?_
    · apply wc_up
      show (decide (p = p) || hbit (f p) p) = true
      simp
    · intro q r hq hr h1 h2
      refine wc_tr 64 p q r hq h1 (wc_up ?_ 64)
      show (decide (q = r) || hbit (f q) r) = true
      rw [h2]
      simp
/-! values, actions, responses -/
def vl (x f : Nat) : Nat := x / 4 ^ (2 - f) % 4
def dg (x r f : Nat) : Nat := if vl r f = vl x f then 4 else vl r f
def ac (x r : Nat) : Nat → Nat
  | 0 => 0
  | n + 1 => ac x r n * 5 + dg x r n
def act (x r : Nat) : Nat := ac x r 3
theorem vl_lt (x f : Nat) : vl x f < 4 := Nat.mod_lt _ (by decide)
theorem dg_lt (x r f : Nat) : dg x r f < 5 := by
  unfold dg
  have := vl_lt r f
  split <;> omega
theorem ac_1 (x r : Nat) : ac x r 1 < 5 := by
  have := dg_lt x r 0
  show ac x r 0 * 5 + dg x r 0 < 5
  show 0 * 5 + dg x r 0 < 5
  omega
theorem ac_2 (x r : Nat) : ac x r 2 < 25 := by
  have := ac_1 x r
  have := dg_lt x r 1
  show ac x r 1 * 5 + dg x r 1 < 25
  omega
theorem act_lt (x r : Nat) : act x r < 125 := by
  have := ac_2 x r
  have := dg_lt x r 2
  show ac x r 2 * 5 + dg x r 2 < 125
  omega
/-- for one packet no two outcomes have one action -/
theorem act_inj : ∀ x, x < 64 → ∀ r, r < 64 → ∀ t, t < 64 → act x r = act x t → r = t := by
  intro x hx r hr t ht h
  have e0 : ac x r 1 = dg x r 0 := by show 0 * 5 + dg x r 0 = dg x r 0; omega
  have e0' : ac x t 1 = dg x t 0 := by show 0 * 5 + dg x t 0 = dg x t 0; omega
  have h3 : ac x r 2 * 5 + dg x r 2 = ac x t 2 * 5 + dg x t 2 := h
  have a2 := dg_lt x r 2
  have a2' := dg_lt x t 2
  have h2 : ac x r 2 = ac x t 2 := by omega
  have d2 : dg x r 2 = dg x t 2 := by omega
  have h2' : ac x r 1 * 5 + dg x r 1 = ac x t 1 * 5 + dg x t 1 := h2
  have a1 := dg_lt x r 1
  have a1' := dg_lt x t 1
  have h1 : ac x r 1 = ac x t 1 := by omega
  have d1 : dg x r 1 = dg x t 1 := by omega
  have d0 : dg x r 0 = dg x t 0 := by rw [← e0, ← e0']; exact h1
  have key : ∀ f, dg x r f = dg x t f → vl r f = vl t f := by
    intro f hf
    unfold dg at hf
    have := vl_lt r f
    have := vl_lt t f
    split at hf <;> split at hf <;> omega
  have k0 := key 0 d0
  have k1 := key 1 d1
  have k2 := key 2 d2
  unfold vl at k0 k1 k2
  simp only [Nat.sub_zero, Nat.reduceSub, Nat.reducePow, Nat.pow_zero, Nat.div_one] at k0 k1 k2
  omega
/-- the response as two longs, cut at th -/
def rl (th x : Nat) (o : Int64) : Nat → Int64
  | 0 => 0
  | n + 1 => if hbit o n = true then (if act x n < th then rl th x o n ||| one (act x n) else rl th x o n) else rl th x o n
def rh (th x : Nat) (o : Int64) : Nat → Int64
  | 0 => 0
  | n + 1 => if hbit o n = true then (if act x n < th then rh th x o n else rh th x o n ||| one (act x n - th)) else rh th x o n
def rsp (x : Nat) (o : Int64) (a : Nat) : Prop := ∃ r, r < 64 ∧ hbit o r = true ∧ act x r = a
theorem rl_bit {th : Nat} (hth : th ≤ 64) (x : Nat) (o : Int64) (a : Nat) : ∀ n, hbit (rl th x o n) a = true ↔ a < th ∧ ∃ r, r < n ∧ hbit o r = true ∧ act x r = a := by
  intro n
  induction n with
  | zero => simp [rl, hb_0]
  | succ n ih =>
    unfold rl
    by_cases h : hbit o n = true
    · rw [if_pos h]
      by_cases h2 : act x n < th
      · rw [if_pos h2, hb_or, Bool.or_eq_true, ih, hb_one (by omega), decide_eq_true_eq]
        constructor
        · rintro (⟨h0, r, h1, h3, h4⟩ | h3)
          · exact ⟨h0, r, by omega, h3, h4⟩
          · exact ⟨by omega, n, by omega, h, h3.symm⟩
        · rintro ⟨h0, r, h1, h3, h4⟩
          by_cases hr : r = n
          · subst hr
            exact Or.inr h4.symm
          · exact Or.inl ⟨h0, r, by omega, h3, h4⟩
      · rw [if_neg h2, ih]
        constructor
        · rintro ⟨h0, r, h1, h3, h4⟩
          exact ⟨h0, r, by omega, h3, h4⟩
        · rintro ⟨h0, r, h1, h3, h4⟩
          by_cases hr : r = n
          · subst hr
            omega
          · exact ⟨h0, r, by omega, h3, h4⟩
    · rw [if_neg h, ih]
      constructor
      · rintro ⟨h0, r, h1, h3, h4⟩
        exact ⟨h0, r, by omega, h3, h4⟩
      · rintro ⟨h0, r, h1, h3, h4⟩
        by_cases hr : r = n
        · subst hr
          exact absurd h3 h
        · exact ⟨h0, r, by omega, h3, h4⟩
theorem rh_bit {th : Nat} (hth : 61 ≤ th) (x : Nat) (o : Int64) (a : Nat) : ∀ n, hbit (rh th x o n) a = true ↔ ∃ r, r < n ∧ hbit o r = true ∧ act x r = a + th := by
  intro n
  induction n with
  | zero => simp [rh, hb_0]
  | succ n ih =>
    have hlt := act_lt x n
    unfold rh
    by_cases h : hbit o n = true
    · rw [if_pos h]
      by_cases h2 : act x n < th
      · rw [if_pos h2, ih]
        constructor
        · rintro ⟨r, h1, h3, h4⟩
          exact ⟨r, by omega, h3, h4⟩
        · rintro ⟨r, h1, h3, h4⟩
          by_cases hr : r = n
          · subst hr
            omega
          · exact ⟨r, by omega, h3, h4⟩
      · rw [if_neg h2, hb_or, Bool.or_eq_true, ih, hb_one (by omega), decide_eq_true_eq]
        constructor
        · rintro (⟨r, h1, h3, h4⟩ | h3)
          · exact ⟨r, by omega, h3, h4⟩
          · exact ⟨n, by omega, h, by omega⟩
        · rintro ⟨r, h1, h3, h4⟩
          by_cases hr : r = n
          · subst hr
            exact Or.inr (by omega)
          · exact Or.inl ⟨r, by omega, h3, h4⟩
    · rw [if_neg h, ih]
      constructor
      · rintro ⟨r, h1, h3, h4⟩
        exact ⟨r, by omega, h3, h4⟩
      · rintro ⟨r, h1, h3, h4⟩
        by_cases hr : r = n
        · subst hr
          exact absurd h3 h
        · exact ⟨r, by omega, h3, h4⟩
theorem bool_iff {x y : Bool} (h : x = true ↔ y = true) : x = y := by
  cases x <;> cases y <;> simp_all
theorem rsp_iff {th x y : Nat} {o o' : Int64} (h1 : 61 ≤ th) (h2 : th ≤ 64) : (rl th x o 64 = rl th y o' 64 ∧ rh th x o 64 = rh th y o' 64) ↔ ∀ a, rsp x o a ↔ rsp y o' a := by
  constructor
  · rintro ⟨e1, e2⟩ a
    by_cases ha : a < th
    · have b1 := rl_bit h2 x o a 64
      have b2 := rl_bit h2 y o' a 64
      rw [e1] at b1
      have b3 := b1.symm.trans b2
      constructor
      · intro h
        exact (b3.mp ⟨ha, h⟩).2
      · intro h
        exact (b3.mpr ⟨ha, h⟩).2
    · have b1 := rh_bit h1 x o (a - th) 64
      have b2 := rh_bit h1 y o' (a - th) 64
      rw [e2] at b1
      have b3 := b1.symm.trans b2
      rw [show a - th + th = a by omega] at b3
      exact b3
  · intro h
    refine ⟨hb_ext (fun k hk => bool_iff ?_), hb_ext (fun k hk => bool_iff ?_)⟩
    · rw [rl_bit h2, rl_bit h2]
      constructor
      · rintro ⟨h0, h3⟩
        exact ⟨h0, (h k).mp h3⟩
      · rintro ⟨h0, h3⟩
        exact ⟨h0, (h k).mpr h3⟩
    · rw [rh_bit h1, rh_bit h1]
      exact h (k + th)
/-- all packets of a region have one response -/
def uni (th : Nat) (f : Nat → Int64) (x n : Nat) : Bool := decide (∀ q, q < n → rl th (x + q) (f (x + q)) 64 = rl th x (f x) 64 ∧ rh th (x + q) (f (x + q)) 64 = rh th x (f x) 64)
theorem uni_63 (f : Nat → Int64) (x n : Nat) : uni 63 f x n = uni 64 f x n := by
  apply bool_iff
  unfold uni
  rw [decide_eq_true_eq, decide_eq_true_eq]
  constructor
  · intro h q hq
    exact (rsp_iff (by decide) (by decide)).mpr ((rsp_iff (by decide) (by decide)).mp (h q hq))
  · intro h q hq
    exact (rsp_iff (by decide) (by decide)).mpr ((rsp_iff (by decide) (by decide)).mp (h q hq))
theorem uni_1 (th : Nat) (f : Nat → Int64) (x : Nat) : uni th f x 1 = true := by
  unfold uni
  rw [decide_eq_true_eq]
  intro q hq
  have : q = 0 := by omega
  subst this
  exact ⟨rfl, rfl⟩
/-- the table: first packet and depth (a rule has 4 ^ depth packets) -/
def reg (ok : Nat → Nat → Bool) : Nat → Nat → List (Nat × Nat)
  | 0, x => [(x, 0)]
  | d + 1, x => if ok x (4 ^ (d + 1)) = true then [(x, d + 1)] else reg ok d x ++ (reg ok d (x + 4 ^ d) ++ (reg ok d (x + 2 * 4 ^ d) ++ reg ok d (x + 3 * 4 ^ d)))
/-- the depth that is taken at x -/
def gz (ok : Nat → Nat → Bool) (x : Nat) : Nat := if x % 64 = 0 ∧ ok x 64 = true then 3 else if x % 16 = 0 ∧ ok x 16 = true then 2 else if x % 4 = 0 ∧ ok x 4 = true then 1 else 0
def grd (ok : Nat → Nat → Bool) : Nat → Nat → List (Nat × Nat)
  | 0, _ => []
  | n + 1, x => if 64 ≤ x then [] else (x, gz ok x) :: grd ok n (x + 4 ^ gz ok x)
theorem grd_s {ok : Nat → Nat → Bool} {n x : Nat} (h : x < 64) : grd ok (n + 1) x = (x, gz ok x) :: grd ok n (x + 4 ^ gz ok x) := by
  show (if 64 ≤ x then [] else (x, gz ok x) :: grd ok n (x + 4 ^ gz ok x)) = _
  rw [if_neg (by omega)]
theorem gr0 {ok : Nat → Nat → Bool} {n x : Nat} (hx : x < 64) (h1 : ¬ (x % 4 = 0 ∧ ok x 4 = true)) (h2 : ¬ (x % 16 = 0 ∧ ok x 16 = true)) (h3 : ¬ (x % 64 = 0 ∧ ok x 64 = true)) : grd ok (n + 1) x = reg ok 0 x ++ grd ok n (x + 1) := by
  have e : gz ok x = 0 := by unfold gz; rw [if_neg h3, if_neg h2, if_neg h1]
  rw [grd_s hx, e]
  rfl
theorem gr1 {ok : Nat → Nat → Bool} {n x : Nat} (hx : x + 4 ≤ 64) (ha : x % 4 = 0) (h2 : ¬ (x % 16 = 0 ∧ ok x 16 = true)) (h3 : ¬ (x % 64 = 0 ∧ ok x 64 = true)) : grd ok (n + (reg ok 1 x).length) x = reg ok 1 x ++ grd ok n (x + 4) := by
  show grd ok (n + (if ok x (4 ^ (0 + 1)) = true then [(x, 0 + 1)] else _).length) x = (if ok x (4 ^ (0 + 1)) = true then [(x, 0 + 1)] else _) ++ _
  by_cases h : ok x 4 = true
  · rw [if_pos h]
    have e : gz ok x = 1 := by unfold gz; rw [if_neg h3, if_neg h2, if_pos ⟨ha, h⟩]
    show grd ok (n + 1) x = _
    rw [grd_s (by omega), e]
    rfl
  · rw [if_neg h]
    show grd ok (n + 4) x = (reg ok 0 x ++ (reg ok 0 (x + 1) ++ (reg ok 0 (x + 2 * 1) ++ reg ok 0 (x + 3 * 1)))) ++ grd ok n (x + 4)
    rw [show n + 4 = (n + 3) + 1 from rfl, gr0 (by omega) (fun q => h q.2) h2 h3]
    rw [show n + 3 = (n + 2) + 1 from rfl, gr0 (by omega) (by omega) (by omega) (by omega)]
    rw [show n + 2 = (n + 1) + 1 from rfl, gr0 (by omega) (by omega) (by omega) (by omega)]
    rw [gr0 (by omega) (by omega) (by omega) (by omega)]
    rfl
theorem gr2 {ok : Nat → Nat → Bool} {n x : Nat} (hx : x + 16 ≤ 64) (ha : x % 16 = 0) (h3 : ¬ (x % 64 = 0 ∧ ok x 64 = true)) : grd ok (n + (reg ok 2 x).length) x = reg ok 2 x ++ grd ok n (x + 16) := by
  show grd ok (n + (if ok x (4 ^ (1 + 1)) = true then [(x, 1 + 1)] else _).length) x = (if ok x (4 ^ (1 + 1)) = true then [(x, 1 + 1)] else _) ++ _
  by_cases h : ok x 16 = true
  · rw [if_pos h]
    have e : gz ok x = 2 := by unfold gz; rw [if_neg h3, if_pos ⟨ha, h⟩]
    show grd ok (n + 1) x = _
    rw [grd_s (by omega), e]
    rfl
  · rw [if_neg h]
    show grd ok (n + (reg ok 1 x ++ (reg ok 1 (x + 4) ++ (reg ok 1 (x + 8) ++ reg ok 1 (x + 12)))).length) x = (reg ok 1 x ++ (reg ok 1 (x + 4) ++ (reg ok 1 (x + 8) ++ reg ok 1 (x + 12)))) ++ grd ok n (x + 16)
    generalize e1 : (reg ok 1 x).length = a1
    generalize e2 : (reg ok 1 (x + 4)).length = a2
    generalize e3 : (reg ok 1 (x + 8)).length = a3
    generalize e4 : (reg ok 1 (x + 12)).length = a4
    rw [List.length_append, List.length_append, List.length_append, e1, e2, e3, e4]
    rw [show n + (a1 + (a2 + (a3 + a4))) = (n + a4 + a3 + a2) + a1 by omega, ← e1, gr1 (by omega) (by omega) (fun q => h q.2) h3]
    rw [← e2, gr1 (by omega) (by omega) (by omega) (by omega)]
    rw [← e3, gr1 (by omega) (by omega) (by omega) (by omega)]
    rw [← e4, gr1 (by omega) (by omega) (by omega) (by omega)]
    simp only [List.append_assoc]
theorem gr3 {ok : Nat → Nat → Bool} {n : Nat} : grd ok (n + (reg ok 3 0).length) 0 = reg ok 3 0 := by
  show grd ok (n + (if ok 0 (4 ^ (2 + 1)) = true then [(0, 2 + 1)] else _).length) 0 = (if ok 0 (4 ^ (2 + 1)) = true then [(0, 2 + 1)] else _)
  have hend : ∀ k, grd ok k 64 = [] := by
    intro k
    cases k with
    | zero => rfl
    | succ k => show (if 64 ≤ 64 then [] else _) = []; rw [if_pos (Nat.le_refl _)]
  by_cases h : ok 0 64 = true
  · rw [if_pos h]
    have e : gz ok 0 = 3 := by unfold gz; rw [if_pos ⟨rfl, h⟩]
    show grd ok (n + 1) 0 = _
    rw [grd_s (by decide), e]
    show (0, 3) :: grd ok n 64 = _
    rw [hend]
  · rw [if_neg h]
    show grd ok (n + (reg ok 2 0 ++ (reg ok 2 16 ++ (reg ok 2 32 ++ reg ok 2 48))).length) 0 = reg ok 2 0 ++ (reg ok 2 16 ++ (reg ok 2 32 ++ reg ok 2 48))
    generalize e1 : (reg ok 2 0).length = a1
    generalize e2 : (reg ok 2 16).length = a2
    generalize e3 : (reg ok 2 32).length = a3
    generalize e4 : (reg ok 2 48).length = a4
    rw [List.length_append, List.length_append, List.length_append, e1, e2, e3, e4]
    rw [show n + (a1 + (a2 + (a3 + a4))) = (n + a4 + a3 + a2) + a1 by omega, ← e1, gr2 (by decide) (by decide) (fun q => h q.2)]
    rw [← e2, gr2 (by decide) (by decide) (by omega)]
    rw [← e3, gr2 (by decide) (by decide) (by omega)]
    rw [← e4, gr2 (by decide) (by decide) (by omega)]
    rw [hend, List.append_nil]
end
section
/-! how many packets a set has; steps one by one -/
def cd (x : Int64) : Nat → Nat
  | 0 => 0
  | n + 1 => cd x n + (if hbit x n = true then 1 else 0)
theorem cd_le (x : Int64) : ∀ n, cd x n ≤ n := by
  intro n
  induction n with
  | zero => exact Nat.le_refl _
  | succ n ih =>
    show cd x n + (if hbit x n = true then 1 else 0) ≤ n + 1
    split <;> omega
theorem cd_mono {x y : Int64} (h : ∀ k, hbit x k = true → hbit y k = true) : ∀ n, cd x n ≤ cd y n := by
  intro n
  induction n with
  | zero => exact Nat.le_refl _
  | succ n ih =>
    show cd x n + (if hbit x n = true then 1 else 0) ≤ cd y n + (if hbit y n = true then 1 else 0)
    by_cases hx : hbit x n = true
    · rw [if_pos hx, if_pos (h n hx)]
      omega
    · rw [if_neg hx]
      omega
theorem cd_lt {x y : Int64} (h : ∀ k, hbit x k = true → hbit y k = true) {k : Nat} (h1 : hbit x k = false) (h2 : hbit y k = true) : ∀ n, k < n → cd x n < cd y n := by
  intro n
  induction n with
  | zero => intro h; omega
  | succ n ih =>
    intro hk
    show cd x n + (if hbit x n = true then 1 else 0) < cd y n + (if hbit y n = true then 1 else 0)
    by_cases hn : k = n
    · subst hn
      rw [if_neg (by rw [h1]; decide), if_pos h2]
      have := cd_mono h k
      omega
    · have := ih (by omega)
      by_cases hx : hbit x n = true
      · rw [if_pos hx, if_pos (h n hx)]
        omega
      · rw [if_neg hx]
        omega
theorem cd_grow {x y : Int64} (h : ∀ k, hbit x k = true → hbit y k = true) (hne : ¬ x = y) : cd x 64 < cd y 64 := by
  apply Classical.byContradiction
  intro hc
  apply hne
  apply hb_ext
  intro k hk
  apply bool_iff
  constructor
  · exact h k
  · intro hy
    cases hx : hbit x k with
    | true => rfl
    | false => exact absurd (cd_lt h hx hy 64 hk) hc
/-- what has been reached after n steps; what the n-th step gives -/
def st (f : Nat → Int64) (p : Nat) : Nat → Int64
  | 0 => one p
  | n + 1 => st f p n ||| gf f (st f p n) 64
def nw (f : Nat → Int64) (p : Nat) : Nat → Int64
  | 0 => one p
  | n + 1 => gf f (nw f p n) 64
theorem st_s (f : Nat → Int64) (p n : Nat) : st f p (n + 1) = st f p n ||| gf f (st f p n) 64 := rfl
theorem st_up {f : Nat → Int64} {p n k : Nat} (h : hbit (st f p n) k = true) : hbit (st f p (n + 1)) k = true := by
  rw [st_s, hb_or, h]
  rfl
theorem st_stop {f : Nat → Int64} {p n : Nat} (h : st f p (n + 1) = st f p n) : ∀ k, st f p (n + k) = st f p n := by
  intro k
  induction k with
  | zero => rfl
  | succ k ih =>
    show st f p (n + k + 1) = _
    rw [st_s, ih]
    rw [st_s] at h
    exact h
theorem one_cd {p : Nat} (hp : p < 64) : 1 ≤ cd (one p) 64 := by
  have h : cd (0 : Int64) 64 < cd (one p) 64 := by
    refine cd_lt (k := p) (fun k h => ?_) (hb_0 p) (by rw [hb_one hp]; simp) 64 hp
    rw [hb_0] at h
    cases h
  omega
theorem st_card {f : Nat → Int64} {p : Nat} (hp : p < 64) : ∀ n, (∀ i, i < n → ¬ st f p (i + 1) = st f p i) → n + 1 ≤ cd (st f p n) 64 := by
  intro n
  induction n with
  | zero => intro _; exact one_cd hp
  | succ n ih =>
    intro h
    have h1 := ih (fun i hi => h i (by omega))
    have h2 := cd_grow (x := st f p n) (y := st f p (n + 1)) (fun k hk => st_up hk) (fun q => h n (by omega) q.symm)
    omega
/-- it has stopped growing before the 64th step -/
theorem st_63 {f : Nat → Int64} {p : Nat} (hp : p < 64) : ∃ i, i < 64 ∧ st f p (i + 1) = st f p i := by
  apply Classical.byContradiction
  intro h
  have h1 := st_card hp 64 (fun i hi q => h ⟨i, hi, q⟩)
  have h2 := cd_le (st f p 64) 64
  omega
theorem st_64 {f : Nat → Int64} {p : Nat} (hp : p < 64) (k : Nat) : st f p (64 + k) = st f p 64 := by
  obtain ⟨i, hi, h⟩ := st_63 (f := f) hp
  have h1 := st_stop h (64 - i)
  have h2 := st_stop h (64 - i + k)
  rw [show i + (64 - i) = 64 by omega] at h1
  rw [show i + (64 - i + k) = 64 + k by omega] at h2
  rw [h1, h2]
theorem st_rch {f : Nat → Int64} {p j : Nat} (hp : p < 64) (hj : j < 64) : hbit (st f p 64) j = true ↔ Rch f p j := by
  constructor
  · have key : ∀ n j, j < 64 → hbit (st f p n) j = true → Rch f p j := by
      intro n
      induction n with
      | zero =>
        intro j hj h
        have h : hbit (one p) j = true := h
        rw [hb_one hp, decide_eq_true_eq] at h
        subst h
        exact Rch.rf
      | succ n ih =>
        intro j hj h
        rw [st_s, hb_or, Bool.or_eq_true, gf_bit] at h
        rcases h with h | ⟨i, h1, h2, h3⟩
        · exact ih j hj h
        · exact (ih i h1 h2).tr (Rch.st h1 hj h3)
    exact key 64 j hj
  · intro h
    refine h (fun x => hbit (st f p 64) x = true) ?_ ?_
    · have : ∀ n, hbit (st f p n) p = true := by
        intro n
        induction n with
        | zero => show hbit (one p) p = true; rw [hb_one hp]; simp
        | succ n ih => exact st_up ih
      exact this 64
    · intro q r hq hr h1 h2
      rw [← st_64 (f := f) hp 1]
      show hbit (st f p (64 + 1)) r = true
      rw [st_s, hb_or, Bool.or_eq_true, gf_bit]
      exact Or.inr ⟨q, hq, h1, h2⟩
theorem st_nw {f : Nat → Int64} {p : Nat} (j : Nat) : ∀ n, hbit (st f p n) j = true ↔ ∃ i, i ≤ n ∧ hbit (nw f p i) j = true := by
  intro n
  induction n generalizing j with
  | zero =>
    constructor
    · intro h
      exact ⟨0, Nat.le_refl _, h⟩
    · rintro ⟨i, h1, h2⟩
      have : i = 0 := by omega
      subst this
      exact h2
  | succ n ih =>
    rw [st_s, hb_or, Bool.or_eq_true, ih, gf_bit]
    constructor
    · rintro (⟨i, h1, h2⟩ | ⟨q, h1, h2, h3⟩)
      · exact ⟨i, by omega, h2⟩
      · obtain ⟨i, h4, h5⟩ := (ih q).mp h2
        refine ⟨i + 1, by omega, ?_⟩
        show hbit (gf f (nw f p i) 64) j = true
        rw [gf_bit]
        exact ⟨q, h1, h5, h3⟩
    · rintro ⟨i, h1, h2⟩
      by_cases hi : i ≤ n
      · exact Or.inl ⟨i, hi, h2⟩
      · have : i = n + 1 := by omega
        subst this
        have h2 : hbit (gf f (nw f p n) 64) j = true := h2
        rw [gf_bit] at h2
        obtain ⟨q, h3, h4, h5⟩ := h2
        exact Or.inr ⟨q, h3, (ih q).mpr ⟨n, Nat.le_refl _, h4⟩, h5⟩
/-- the answer of hops -/
def hopR (f : Nat → Int64) (p : Nat) (z : Int64) (r : Int32) : Prop := (∃ n, n < 65 ∧ r = nI n ∧ ¬ nw f p n &&& z = 0 ∧ ∀ i, i < n → nw f p i &&& z = 0) ∨ (r = -1 ∧ ∀ n, nw f p n &&& z = 0)
theorem hopR_one {f : Nat → Int64} {p : Nat} {z : Int64} {r t : Int32} (h1 : hopR f p z r) (h2 : hopR f p z t) : r = t := by
  rcases h1 with ⟨n, a1, a2, a3, a4⟩ | ⟨a1, a2⟩ <;> rcases h2 with ⟨k, b1, b2, b3, b4⟩ | ⟨b1, b2⟩
  · have : n = k := by
      rcases Nat.lt_trichotomy n k with q | q | q
      · exact absurd (b4 n q) a3
      · exact q
      · exact absurd (a4 k q) b3
    rw [a2, b2, this]
  · exact absurd (b2 n) a3
  · exact absurd (a2 k) b3
  · rw [a1, b1]
theorem cap0 {x y z : Int64} (h : ∀ k, hbit x k = true → hbit y k = true) (h0 : y &&& z = 0) : x &&& z = 0 := by
  apply Classical.byContradiction
  intro hc
  obtain ⟨k, hk, h1⟩ := hb_ne0.mp hc
  rw [hb_and, Bool.and_eq_true] at h1
  have : hbit (y &&& z) k = true := by rw [hb_and, Bool.and_eq_true]; exact ⟨h k h1.1, h1.2⟩
  rw [h0, hb_0] at this
  cases this
/-- by what has been reached: at the step t for the first time -/
theorem hop_at {f : Nat → Int64} {p t : Nat} {z : Int64} (ht : t < 65) (h1 : ¬ st f p t &&& z = 0) (h2 : ∀ i, i < t → st f p i &&& z = 0) : hopR f p z (nI t) := by
  refine Or.inl ⟨t, ht, rfl, ?_, fun i hi => cap0 (fun k hk => (st_nw k i).mpr ⟨i, Nat.le_refl _, hk⟩) (h2 i hi)⟩
  intro h0
  obtain ⟨k, hk, h3⟩ := hb_ne0.mp h1
  rw [hb_and, Bool.and_eq_true] at h3
  obtain ⟨i, h4, h5⟩ := (st_nw k t).mp h3.1
  by_cases hi : i = t
  · subst hi
    have : hbit (nw f p i &&& z) k = true := by rw [hb_and, Bool.and_eq_true]; exact ⟨h5, h3.2⟩
    rw [h0, hb_0] at this
    cases this
  · have h6 := h2 i (by omega)
    have : hbit (st f p i &&& z) k = true := by rw [hb_and, Bool.and_eq_true]; exact ⟨(st_nw k i).mpr ⟨i, Nat.le_refl _, h5⟩, h3.2⟩
    rw [h6, hb_0] at this
    cases this
theorem hop_no {f : Nat → Int64} {p t : Nat} {z : Int64} (h0 : st f p (t + 1) = st f p t) (h1 : st f p t &&& z = 0) : hopR f p z (-1) := by
  refine Or.inr ⟨rfl, fun n => ?_⟩
  refine cap0 (y := st f p t) (fun k hk => ?_) h1
  have h2 : hbit (st f p (t + n)) k = true := (st_nw k (t + n)).mpr ⟨n, by omega, hk⟩
  rw [st_stop h0] at h2
  exact h2
theorem hop_all {f : Nat → Int64} {p : Nat} (hp : p < 64) {z : Int64} (h : ∀ n, n < 65 → nw f p n &&& z = 0) : hopR f p z (-1) := by
  refine Or.inr ⟨rfl, fun n => ?_⟩
  apply Classical.byContradiction
  intro hc
  obtain ⟨k, hk, h1⟩ := hb_ne0.mp hc
  rw [hb_and, Bool.and_eq_true] at h1
  have h2 : hbit (st f p (64 + n)) k = true := (st_nw k (64 + n)).mpr ⟨n, by omega, h1.1⟩
  rw [st_64 hp] at h2
  obtain ⟨i, h3, h4⟩ := (st_nw k 64).mp h2
  have h5 := h i (by omega)
  have : hbit (nw f p i &&& z) k = true := by rw [hb_and, Bool.and_eq_true]; exact ⟨h4, h1.2⟩
  rw [h5, hb_0] at this
  cases this
end
section
/-! the count of bits by bytes -/
def by8 (b : Nat → Nat) : Nat → Nat
  | 0 => 0
  | k + 1 => b 0 + 256 * by8 (fun i => b (i + 1)) k
theorem by8_s (b : Nat → Nat) (k : Nat) : by8 b (k + 1) = b 0 + 256 * by8 (fun i => b (i + 1)) k := rfl
theorem and256 {a b c d : Nat} (ha : a < 256) (hc : c < 256) : (a + 256 * b) &&& (c + 256 * d) = (a &&& c) + 256 * (b &&& d) := by
  have h1 : ((a + 256 * b) &&& (c + 256 * d)) % 2 ^ 8 = a &&& c := by
    rw [Nat.and_mod_two_pow, show (a + 256 * b) % 2 ^ 8 = a by omega, show (c + 256 * d) % 2 ^ 8 = c by omega]
  have h2 : ((a + 256 * b) &&& (c + 256 * d)) / 2 ^ 8 = b &&& d := by
    rw [Nat.and_div_two_pow, show (a + 256 * b) / 2 ^ 8 = b by omega, show (c + 256 * d) / 2 ^ 8 = d by omega]
  generalize (a + 256 * b) &&& (c + 256 * d) = z at h1 h2
  omega
theorem by8_and : ∀ (k : Nat) (a c : Nat → Nat), (∀ i, a i < 256) → (∀ i, c i < 256) → by8 a k &&& by8 c k = by8 (fun i => a i &&& c i) k := by
  intro k
  induction k with
  | zero => intro a c _ _; show 0 &&& 0 = 0; decide
  | succ k ih =>
    intro a c ha hc
    rw [by8_s, by8_s, by8_s, and256 (ha 0) (hc 0), ih _ _ (fun i => ha (i + 1)) (fun i => hc (i + 1))]
theorem by8_add : ∀ (k : Nat) (a c : Nat → Nat), by8 a k + by8 c k = by8 (fun i => a i + c i) k := by
  intro k
  induction k with
  | zero => intro a c; rfl
  | succ k ih =>
    intro a c
    have := ih (fun i => a (i + 1)) (fun i => c (i + 1))
    rw [by8_s, by8_s, by8_s]
    omega
theorem by8_sub : ∀ (k : Nat) (a c : Nat → Nat), (∀ i, c i ≤ a i) → by8 a k - by8 c k = by8 (fun i => a i - c i) k ∧ by8 c k ≤ by8 a k := by
  intro k
  induction k with
  | zero => intro a c _; exact ⟨rfl, Nat.le_refl _⟩
  | succ k ih =>
    intro a c h
    obtain ⟨h1, h2⟩ := ih (fun i => a (i + 1)) (fun i => c (i + 1)) (fun i => h (i + 1))
    have h0 := h 0
    rw [by8_s, by8_s, by8_s]
    omega
theorem by8_mod {m m' : Nat} (hm : (m = 2 ∧ m' = 128) ∨ (m = 4 ∧ m' = 64) ∨ (m = 16 ∧ m' = 16)) : ∀ (k : Nat) (b : Nat → Nat), (∀ i, k ≤ i → b i = 0) → by8 b k % m = b 0 % m := by
  intro k b h
  cases k with
  | zero =>
    rw [h 0 (Nat.le_refl _)]
    rfl
  | succ k =>
    rw [by8_s]
    rcases hm with ⟨rfl, rfl⟩ | ⟨rfl, rfl⟩ | ⟨rfl, rfl⟩ <;> omega
theorem by8_div {m m' : Nat} (hm : (m = 2 ∧ m' = 128) ∨ (m = 4 ∧ m' = 64) ∨ (m = 16 ∧ m' = 16)) : ∀ (k : Nat) (b : Nat → Nat), (∀ i, k ≤ i → b i = 0) → by8 b k / m = by8 (fun i => b i / m + m' * (b (i + 1) % m)) k := by
  intro k
  induction k with
  | zero =>
    intro b _
    show 0 / m = 0
    exact Nat.zero_div m
  | succ k ih =>
    intro b h
    have h1 := ih (fun i => b (i + 1)) (fun i hi => h (i + 1) (by omega))
    have h2 := by8_mod hm k (fun i => b (i + 1)) (fun i hi => h (i + 1) (by omega))
    rw [by8_s, by8_s]
    rw [← h1]
    generalize by8 (fun i => b (i + 1)) k = X at h2 ⊢
    show (b 0 + 256 * X) / m = b 0 / m + m' * (b (0 + 1) % m) + 256 * (X / m)
    have h2 : X % m = b (0 + 1) % m := h2
    rcases hm with ⟨rfl, rfl⟩ | ⟨rfl, rfl⟩ | ⟨rfl, rfl⟩ <;> omega
theorem by8_c {a c : Nat → Nat} (h : ∀ i, a i = c i) (k : Nat) : by8 a k = by8 c k := by
  rw [show a = c from funext h]
theorem by8_of : ∀ (k N : Nat), N < 256 ^ k → N = by8 (fun i => if i < k then N / 256 ^ i % 256 else 0) k := by
  intro k
  induction k with
  | zero =>
    intro N h
    have : N = 0 := by simpa using h
    rw [this]
    rfl
  | succ k ih =>
    intro N h
    have h1 : N / 256 < 256 ^ k := by
      rw [Nat.div_lt_iff_lt_mul (by decide)]
      rw [Nat.pow_succ] at h
      exact h
    have h2 := ih (N / 256) h1
    rw [by8_s]
    have e : by8 (fun i => if i + 1 < k + 1 then N / 256 ^ (i + 1) % 256 else 0) k = N / 256 := by
      refine Eq.trans (by8_c (fun i => ?_) k) h2.symm
      by_cases hi : i < k
      · rw [if_pos hi, if_pos (by omega), Nat.div_div_eq_div_mul, Nat.pow_succ, Nat.mul_comm (256 ^ i) 256]
      · rw [if_neg hi, if_neg (by omega)]
    rw [e]
    show N = (if 0 < k + 1 then N / 256 ^ 0 % 256 else 0) + 256 * (N / 256)
    rw [if_pos (Nat.succ_pos k), Nat.pow_zero, Nat.div_one]
    omega
/-- bits from the low end -/
def cl2 : Nat → Nat → Nat
  | _, 0 => 0
  | N, n + 1 => N % 2 + cl2 (N / 2) n
theorem cl2_s (N n : Nat) : cl2 N (n + 1) = N % 2 + cl2 (N / 2) n := rfl
theorem cl2_top : ∀ (n N : Nat), cl2 N (n + 1) = cl2 N n + N / 2 ^ n % 2 := by
  intro n
  induction n with
  | zero =>
    intro N
    show N % 2 + 0 = 0 + N / 2 ^ 0 % 2
    rw [Nat.pow_zero, Nat.div_one]
    omega
  | succ n ih =>
    intro N
    rw [cl2_s, ih (N / 2), cl2_s, Nat.div_div_eq_div_mul, Nat.pow_succ, Nat.mul_comm (2 ^ n) 2]
    omega
theorem cl2_8 (b X n : Nat) (hb : b < 256) : cl2 (b + 256 * X) (n + 8) = cl2 b 8 + cl2 X n := by
  rw [show n + 8 = n + 1 + 1 + 1 + 1 + 1 + 1 + 1 + 1 from rfl]
  simp only [cl2_s]
  rw [show (b + 256 * X) / 2 / 2 / 2 / 2 / 2 / 2 / 2 / 2 = X by omega]
  rw [show cl2 (b / 2 / 2 / 2 / 2 / 2 / 2 / 2 / 2) 0 = 0 from rfl]
  have q1 : (b + 256 * X) % 2 = b % 2 := by omega
  have q2 : (b + 256 * X) / 2 % 2 = b / 2 % 2 := by omega
  have q3 : (b + 256 * X) / 2 / 2 % 2 = b / 2 / 2 % 2 := by omega
  have q4 : (b + 256 * X) / 2 / 2 / 2 % 2 = b / 2 / 2 / 2 % 2 := by omega
  have q5 : (b + 256 * X) / 2 / 2 / 2 / 2 % 2 = b / 2 / 2 / 2 / 2 % 2 := by omega
  have q6 : (b + 256 * X) / 2 / 2 / 2 / 2 / 2 % 2 = b / 2 / 2 / 2 / 2 / 2 % 2 := by omega
  have q7 : (b + 256 * X) / 2 / 2 / 2 / 2 / 2 / 2 % 2 = b / 2 / 2 / 2 / 2 / 2 / 2 % 2 := by omega
  have q8 : (b + 256 * X) / 2 / 2 / 2 / 2 / 2 / 2 / 2 % 2 = b / 2 / 2 / 2 / 2 / 2 / 2 / 2 % 2 := by omega
  rw [q1, q2, q3, q4, q5, q6, q7, q8]
  simp only [Nat.add_assoc, Nat.add_zero]
theorem cl2_le : ∀ n N, cl2 N n ≤ n := by
  intro n
  induction n with
  | zero => intro N; exact Nat.le_refl _
  | succ n ih =>
    intro N
    have := ih (N / 2)
    rw [cl2_s]
    omega
theorem cd_cl2 (x : Int64) : ∀ n, cd x n = cl2 x.toBitVec.toNat n := by
  intro n
  induction n with
  | zero => rfl
  | succ n ih =>
    rw [cl2_top, ← ih]
    show cd x n + (if hbit x n = true then 1 else 0) = _
    congr 1
    unfold hbit
    rw [BitVec.getLsbD, Nat.testBit_eq_decide_div_mod_eq]
    simp only [decide_eq_true_eq]
    split <;> omega
theorem pc1 : ∀ b, b < 256 → ∀ g, g < 2 → (b / 2 + 128 * g) &&& 85 = b / 2 &&& 85 := by decide +kernel
theorem pc2 : ∀ b, b < 256 → (b / 2 &&& 85) ≤ b := by decide +kernel
theorem pc3 : ∀ b, b < 256 → ∀ g, g < 4 → (b / 4 + 64 * g) &&& 51 = b / 4 &&& 51 := by decide +kernel
theorem pc4 : ∀ b, b < 256 → ∀ g, g < 16 → ((((b - (b / 2 &&& 85)) &&& 51) + ((b - (b / 2 &&& 85)) / 4 &&& 51)) + ((((b - (b / 2 &&& 85)) &&& 51) + ((b - (b / 2 &&& 85)) / 4 &&& 51)) / 16 + 16 * g)) &&& 15 = cl2 b 8 := by decide +kernel
theorem pc5 : ∀ b, b < 256 → ((b - (b / 2 &&& 85)) &&& 51) + ((b - (b / 2 &&& 85)) / 4 &&& 51) ≤ 68 := by decide +kernel
theorem pc6 : ∀ b, b < 256 → (((b - (b / 2 &&& 85)) &&& 51) + ((b - (b / 2 &&& 85)) / 4 &&& 51)) % 16 ≤ 4 := by decide +kernel
/-- the steps of the library's count, on numbers -/
def bc3 (N : Nat) : Nat :=
  let a := N - (N / 2 &&& 6148914691236517205)
  let b := (a &&& 3689348814741910323) + (a / 4 &&& 3689348814741910323)
  (b + b / 16) &&& 1085102592571150095
theorem m85 : by8 (fun _ => 85) 8 = 6148914691236517205 := by decide +kernel
theorem m51 : by8 (fun _ => 51) 8 = 3689348814741910323 := by decide +kernel
theorem m15 : by8 (fun _ => 15) 8 = 1085102592571150095 := by decide +kernel
theorem bc3_by (b : Nat → Nat) (hb : ∀ i, b i < 256) (h0 : ∀ i, 8 ≤ i → b i = 0) : bc3 (by8 b 8) = by8 (fun i => cl2 (b i) 8) 8 := by
  unfold bc3
  have e1 : by8 b 8 - (by8 b 8 / 2 &&& 6148914691236517205) = by8 (fun i => b i - (b i / 2 &&& 85)) 8 := by
    rw [by8_div (Or.inl ⟨rfl, rfl⟩) 8 b h0, ← m85, by8_and 8 _ _ (fun i => by have := hb i; have := hb (i + 1); omega) (fun _ => by decide)]
    rw [by8_c (fun i => pc1 (b i) (hb i) (b (i + 1) % 2) (Nat.mod_lt _ (by decide)))]
    exact (by8_sub 8 b _ (fun i => pc2 (b i) (hb i))).1
  rw [e1]
  have hc : ∀ i, b i - (b i / 2 &&& 85) < 256 := fun i => by have := hb i; omega
  have hz : ∀ i, 8 ≤ i → b i - (b i / 2 &&& 85) = 0 := fun i hi => by rw [h0 i hi]; rfl
  have e2 : (by8 (fun i => b i - (b i / 2 &&& 85)) 8 &&& 3689348814741910323) + (by8 (fun i => b i - (b i / 2 &&& 85)) 8 / 4 &&& 3689348814741910323) = by8 (fun i => ((b i - (b i / 2 &&& 85)) &&& 51) + ((b i - (b i / 2 &&& 85)) / 4 &&& 51)) 8 := by
    rw [by8_div (Or.inr (Or.inl ⟨rfl, rfl⟩)) 8 _ hz, ← m51, by8_and 8 _ _ hc (fun _ => by decide), by8_and 8 _ _ (fun i => by have := hc i; have := hc (i + 1); omega) (fun _ => by decide)]
    rw [by8_c (fun i => pc3 (b i - (b i / 2 &&& 85)) (hc i) ((b (i + 1) - (b (i + 1) / 2 &&& 85)) % 4) (Nat.mod_lt _ (by decide)))]
    exact by8_add 8 _ _
  show (_ + _ / 16) &&& 1085102592571150095 = _
  simp only [e2]
  have hd : ∀ i, ((b i - (b i / 2 &&& 85)) &&& 51) + ((b i - (b i / 2 &&& 85)) / 4 &&& 51) ≤ 68 := fun i => pc5 (b i) (hb i)
  have hd6 : ∀ i, (((b i - (b i / 2 &&& 85)) &&& 51) + ((b i - (b i / 2 &&& 85)) / 4 &&& 51)) % 16 ≤ 4 := fun i => pc6 (b i) (hb i)
  have hy : ∀ i, 8 ≤ i → ((b i - (b i / 2 &&& 85)) &&& 51) + ((b i - (b i / 2 &&& 85)) / 4 &&& 51) = 0 := fun i hi => by rw [h0 i hi]; rfl
  rw [by8_div (Or.inr (Or.inr ⟨rfl, rfl⟩)) 8 _ hy, by8_add, ← m15, by8_and 8 _ _ (fun i => by have := hd i; have := hd6 (i + 1); omega) (fun _ => by decide)]
  exact by8_c (fun i => pc4 (b i) (hb i) _ (Nat.mod_lt _ (by decide))) 8
theorem dvk {a b k : Nat} (h : a < k) : (a + k * b) / k = b := by
  rw [Nat.add_mul_div_left _ _ (by omega), Nat.div_eq_of_lt h, Nat.zero_add]
def bc (N : Nat) : Nat :=
  let a := bc3 N + bc3 N / 256
  let b := a + a / 65536
  (b + b / 4294967296) % 128
theorem cl2_all : ∀ (b : Nat → Nat), (∀ i, b i < 256) → cl2 (by8 b 8) 64 = cl2 (b 0) 8 + (cl2 (b 1) 8 + (cl2 (b 2) 8 + (cl2 (b 3) 8 + (cl2 (b 4) 8 + (cl2 (b 5) 8 + (cl2 (b 6) 8 + cl2 (b 7) 8)))))) := by
  intro b hb
  rw [by8_s, show (64 : Nat) = 56 + 8 from rfl, cl2_8 _ _ _ (hb 0)]
  rw [by8_s, show (56 : Nat) = 48 + 8 from rfl, cl2_8 _ _ _ (hb 1)]
  rw [by8_s, show (48 : Nat) = 40 + 8 from rfl, cl2_8 _ _ _ (hb 2)]
  rw [by8_s, show (40 : Nat) = 32 + 8 from rfl, cl2_8 _ _ _ (hb 3)]
  rw [by8_s, show (32 : Nat) = 24 + 8 from rfl, cl2_8 _ _ _ (hb 4)]
  rw [by8_s, show (24 : Nat) = 16 + 8 from rfl, cl2_8 _ _ _ (hb 5)]
  rw [by8_s, show (16 : Nat) = 8 + 8 from rfl, cl2_8 _ _ _ (hb 6)]
  rw [by8_s]
  show _ + (_ + (_ + (_ + (_ + (_ + (_ + cl2 (b 7 + 256 * 0) 8)))))) = _
  rfl
theorem bc_cl2 {N : Nat} (hN : N < 2 ^ 64) : bc N = cl2 N 64 := by
  have h := by8_of 8 N (by simpa using hN)
  generalize hb : (fun i => if i < 8 then N / 256 ^ i % 256 else 0) = b at h
  have hb1 : ∀ i, b i < 256 := fun i => by
    rw [← hb]
    show (if i < 8 then N / 256 ^ i % 256 else 0) < 256
    split
    · exact Nat.mod_lt _ (by decide)
    · decide
  have hb2 : ∀ i, 8 ≤ i → b i = 0 := fun i hi => by
    rw [← hb]
    show (if i < 8 then N / 256 ^ i % 256 else 0) = 0
    rw [if_neg (by omega)]
  rw [h]
  unfold bc
  rw [bc3_by b hb1 hb2, cl2_all b hb1]
  have g0 := cl2_le 8 (b 0)
  have g1 := cl2_le 8 (b 1)
  have g2 := cl2_le 8 (b 2)
  have g3 := cl2_le 8 (b 3)
  have g4 := cl2_le 8 (b 4)
  have g5 := cl2_le 8 (b 5)
  have g6 := cl2_le 8 (b 6)
  have g7 := cl2_le 8 (b 7)
  have e : by8 (fun i => cl2 (b i) 8) 8 = cl2 (b 0) 8 + 256 * (cl2 (b 1) 8 + 256 * (cl2 (b 2) 8 + 256 * (cl2 (b 3) 8 + 256 * (cl2 (b 4) 8 + 256 * (cl2 (b 5) 8 + 256 * (cl2 (b 6) 8 + 256 * (cl2 (b 7) 8 + 256 * 0))))))) := rfl
  rw [e]
  generalize cl2 (b 0) 8 = c0 at *
  generalize cl2 (b 1) 8 = c1 at *
  generalize cl2 (b 2) 8 = c2 at *
  generalize cl2 (b 3) 8 = c3 at *
  generalize cl2 (b 4) 8 = c4 at *
  generalize cl2 (b 5) 8 = c5 at *
  generalize cl2 (b 6) 8 = c6 at *
  generalize cl2 (b 7) 8 = c7 at *
  clear e h hb hb1 hb2 hN
  have d1 : (c0 + 256 * (c1 + 256 * (c2 + 256 * (c3 + 256 * (c4 + 256 * (c5 + 256 * (c6 + 256 * (c7 + 256 * 0)))))))) / 256 = c1 + 256 * (c2 + 256 * (c3 + 256 * (c4 + 256 * (c5 + 256 * (c6 + 256 * (c7 + 256 * 0)))))) := dvk (by omega)
  simp only [d1]
  have hA2 : c0 + 256 * (c1 + 256 * (c2 + 256 * (c3 + 256 * (c4 + 256 * (c5 + 256 * (c6 + 256 * (c7 + 256 * 0))))))) + (c1 + 256 * (c2 + 256 * (c3 + 256 * (c4 + 256 * (c5 + 256 * (c6 + 256 * (c7 + 256 * 0))))))) = ((c0 + c1) + 256 * (c1 + c2)) + 65536 * ((c2 + c3) + 256 * (c3 + c4) + 65536 * ((c4 + c5) + 256 * (c5 + c6) + 65536 * ((c6 + c7) + 256 * c7))) := by
    simp only [Nat.mul_add]
    simp only [← Nat.mul_assoc, Nat.reduceMul, Nat.mul_zero, Nat.add_zero]
    ac_rfl
  simp only [hA2]
  clear hA2 d1
  have d2 : (((c0 + c1) + 256 * (c1 + c2)) + 65536 * ((c2 + c3) + 256 * (c3 + c4) + 65536 * ((c4 + c5) + 256 * (c5 + c6) + 65536 * ((c6 + c7) + 256 * c7)))) / 65536 = (c2 + c3) + 256 * (c3 + c4) + 65536 * ((c4 + c5) + 256 * (c5 + c6) + 65536 * ((c6 + c7) + 256 * c7)) := dvk (by omega)
  simp only [d2]
  have hB2 : ((c0 + c1) + 256 * (c1 + c2)) + 65536 * ((c2 + c3) + 256 * (c3 + c4) + 65536 * ((c4 + c5) + 256 * (c5 + c6) + 65536 * ((c6 + c7) + 256 * c7))) + ((c2 + c3) + 256 * (c3 + c4) + 65536 * ((c4 + c5) + 256 * (c5 + c6) + 65536 * ((c6 + c7) + 256 * c7))) = ((c0 + c1 + c2 + c3) + 256 * (c1 + c2 + c3 + c4) + 65536 * ((c2 + c3 + c4 + c5) + 256 * (c3 + c4 + c5 + c6))) + 4294967296 * ((c4 + c5 + c6 + c7) + 256 * (c5 + c6 + c7) + 65536 * ((c6 + c7) + 256 * c7)) := by
    simp only [Nat.mul_add]
    simp only [← Nat.mul_assoc, Nat.reduceMul, Nat.mul_zero, Nat.add_zero]
    ac_rfl
  simp only [hB2]
  clear hB2 d2
  have d3 : (((c0 + c1 + c2 + c3) + 256 * (c1 + c2 + c3 + c4) + 65536 * ((c2 + c3 + c4 + c5) + 256 * (c3 + c4 + c5 + c6))) + 4294967296 * ((c4 + c5 + c6 + c7) + 256 * (c5 + c6 + c7) + 65536 * ((c6 + c7) + 256 * c7))) / 4294967296 = ((c4 + c5 + c6 + c7) + 256 * (c5 + c6 + c7) + 65536 * ((c6 + c7) + 256 * c7)) := dvk (by omega)
  rw [d3]
  have hC : ((c0 + c1 + c2 + c3) + 256 * (c1 + c2 + c3 + c4) + 65536 * ((c2 + c3 + c4 + c5) + 256 * (c3 + c4 + c5 + c6))) + 4294967296 * ((c4 + c5 + c6 + c7) + 256 * (c5 + c6 + c7) + 65536 * ((c6 + c7) + 256 * c7)) + ((c4 + c5 + c6 + c7) + 256 * (c5 + c6 + c7) + 65536 * ((c6 + c7) + 256 * c7)) = (c0 + (c1 + (c2 + (c3 + (c4 + (c5 + (c6 + c7))))))) + 128 * (2 * (c1 + c2 + c3 + c4) + 512 * ((c2 + c3 + c4 + c5) + 256 * (c3 + c4 + c5 + c6)) + 33554432 * ((c4 + c5 + c6 + c7) + 256 * (c5 + c6 + c7) + 65536 * ((c6 + c7) + 256 * c7)) + 2 * (c5 + c6 + c7) + 512 * ((c6 + c7) + 256 * c7)) := by
    simp only [Nat.mul_add]
    simp only [← Nat.mul_assoc, Nat.reduceMul, Nat.mul_zero, Nat.add_zero]
    ac_rfl
  rw [hC, Nat.add_mul_mod_self_left]
  clear hC d3
  exact Nat.mod_eq_of_lt (by omega)
end
section
/-! what a policy gives, and which are filters -/
def setv (x a b : Nat) : Nat := x - vl x a * 4 ^ (2 - a) + b * 4 ^ (2 - a)
theorem setv_lt : ∀ x, x < 64 → ∀ a, a < 3 → ∀ b, b < 4 → setv x a b < 64 := by decide +kernel
theorem i_val : ∀ x, x < 64 → ∀ a, a < 3 → (nI x >>> (nI (2 * (2 - a)) &&& 31)) &&& nI 3 = nI (vl x a) := by decide +kernel
theorem i_shift : ∀ a, a < 3 → nI 2 * (nI 2 - nI a) = nI (2 * (2 - a)) := by decide +kernel
theorem i_weight : ∀ a, a < 3 → nI 1 <<< (nI (2 * (2 - a)) &&& 31) = nI (4 ^ (2 - a)) := by decide +kernel
theorem i_packets : ∀ a, a < 4 → nI 64 >>> ((nI 2 * nI a) &&& 31) = nI (4 ^ (3 - a)) := by decide +kernel
theorem i_setC : ∀ x, x < 64 → ∀ a, a < 3 → ∀ b, b < 4 → nI x + (nI b - nI (vl x a)) * nI (4 ^ (2 - a)) = nI (setv x a b) := by decide +kernel
theorem i_valM : ∀ x, x < 64 → ∀ a, a < 3 → (nI x >>> ((nI 4 - nI 2 * nI a) &&& 31)) &&& nI 3 = nI (vl x a) := by decide +kernel
theorem i_setM : ∀ x, x < 64 → ∀ a, a < 3 → ∀ b, b < 4 → nI x + ((nI b - nI (vl x a)) <<< ((nI 4 - nI 2 * nI a) &&& 31)) = nI (setv x a b) := by decide +kernel
def polF (k a b c : Nat) (O : Nat → Nat → Int64) (x : Nat) : Int64 :=
  if k = 0 then 0 else if k = 1 then one x else if k = 2 then (if vl x a = b then one x else 0) else if k = 3 then one (setv x a b)
  else if k = 4 then O a x ||| O b x else if k = 5 then gf (O b) (O a x) 64 else if k = 6 then st (O a) x 64
  else if k = 7 then (if O a x = 0 then one x else 0) else (if O a x = 0 then O c x else O b x)
def polB (k a b c : Nat) (F : Nat → Bool) : Bool :=
  if k = 3 then false else if k = 4 ∨ k = 5 then F a && F b else if k = 6 then F a else if k = 8 then F a && (F b && F c) else true
/-- equal outcomes; how many differ -/
def eqN (f g : Nat → Int64) : Nat → Bool
  | 0 => true
  | n + 1 => eqN f g n && decide (f n = g n)
theorem eqN_iff {f g : Nat → Int64} : ∀ n, eqN f g n = true ↔ ∀ k, k < n → f k = g k := by
  intro n
  induction n with
  | zero => exact ⟨fun _ k h => absurd h (Nat.not_lt_zero k), fun _ => rfl⟩
  | succ n ih =>
    show (eqN f g n && decide (f n = g n)) = true ↔ _
    rw [Bool.and_eq_true, ih, decide_eq_true_eq]
    constructor
    · rintro ⟨h1, h2⟩ k hk
      by_cases h : k = n
      · subst h
        exact h2
      · exact h1 k (by omega)
    · intro h
      exact ⟨fun k hk => h k (by omega), h n (by omega)⟩
def eqO (f g : Nat → Int64) : Bool := eqN f g 64
def isN (O : Nat → Nat → Int64) (n : Nat) : Bool := decide (∀ j, j < n → eqO (O j) (O n) = false)
def dct (O : Nat → Nat → Int64) : Nat → Nat
  | 0 => 0
  | n + 1 => dct O n + (if isN O n = true then 1 else 0)
theorem dct_le (O : Nat → Nat → Int64) : ∀ n, dct O n ≤ n := by
  intro n
  induction n with
  | zero => exact Nat.le_refl _
  | succ n ih =>
    show dct O n + (if isN O n = true then 1 else 0) ≤ n + 1
    split <;> omega
/-- the first packet at which two differ, or 64 -/
def apR (f g : Nat → Int64) (k : Nat) : Prop := k ≤ 64 ∧ (∀ j, j < k → f j = g j) ∧ (k < 64 → ¬ f k = g k)
theorem apR_one {f g : Nat → Int64} {k j : Nat} (h1 : apR f g k) (h2 : apR f g j) : k = j := by
  obtain ⟨a1, a2, a3⟩ := h1
  obtain ⟨b1, b2, b3⟩ := h2
  rcases Nat.lt_trichotomy k j with q | q | q
  · exact absurd (b2 k q) (a3 (by omega))
  · exact q
  · exact absurd (a2 j q) (b3 (by omega))
theorem apR_eq {f g : Nat → Int64} {k : Nat} (h : apR f g k) : k = 64 ↔ eqO f g = true := by
  obtain ⟨a1, a2, a3⟩ := h
  unfold eqO
  rw [eqN_iff]
  constructor
  · intro h
    subst h
    exact a2
  · intro h
    apply Classical.byContradiction
    intro hc
    exact a3 (by omega) (h k (by omega))
/-- is the int a number below n -/
def inb (n : Nat) (x : Int32) : Bool := decide (0 ≤ x.toInt ∧ x.toInt < n)
theorem inb_t {n : Nat} {x : Int32} (hn : n < 2147483648) (h : inb n x = true) : ∃ j : Nat, j < n ∧ x = nI j := by
  unfold inb at h
  rw [decide_eq_true_eq] at h
  exact vp_in_of (vp_in_iff.mpr h) hn
theorem inb_nI {n j : Nat} (hj : j < n) (hn : n < 2147483648) : inb n (nI j) = true := by
  unfold inb
  rw [decide_eq_true_eq]
  exact vp_in_iff.mp (vp_in_nI hj hn)
theorem inb_neg {n : Nat} {x : Int32} (h : x < 0) : inb n x = false := by
  unfold inb
  rw [decide_eq_false_iff_not]
  rw [Int32.lt_iff_toInt_lt, Int32.toInt_zero] at h
  omega
theorem inb_big {n : Nat} {x : Int32} (hn : n < 2147483648) (h : nI n ≤ x) : inb n x = false := by
  unfold inb
  rw [decide_eq_false_iff_not]
  rw [Int32.le_iff_toInt_le, nI_toInt hn] at h
  omega
theorem inb_ok {n : Nat} {x : Int32} (hn : n < 2147483648) (h1 : ¬ x < 0) (h2 : ¬ nI n ≤ x) : inb n x = true := by
  unfold inb
  rw [decide_eq_true_eq]
  rw [Int32.lt_iff_toInt_lt, Int32.toInt_zero] at h1
  rw [Int32.le_iff_toInt_le, nI_toInt hn] at h2
  omega
theorem ts_nf {x : Bool} (h : ¬ x = false) : x = true := by cases x <;> simp_all
theorem ts_nt {x : Bool} (h : ¬ x = true) : x = false := by cases x <;> simp_all
theorem sh_s : ∀ k, k < 64 → (((nI k).toInt64 &&& 63).toBitVec.smod 64).toNat = k := by decide +kernel
theorem hb_sshr (x : Int64) {k : Nat} (hk : k < 64) : ((x >>> ((nI k).toInt64 &&& 63)) &&& 1) = 0 ↔ hbit x k = false := by
  have e : (x >>> ((nI k).toInt64 &&& 63)).toBitVec = x.toBitVec.sshiftRight k := by
    rw [Int64.toBitVec_shiftRight, BitVec.sshiftRight_eq', sh_s k hk]
  rw [← Int64.toBitVec_inj, Int64.toBitVec_and, e]
  show x.toBitVec.sshiftRight k &&& 1#64 = 0#64 ↔ x.toBitVec.getLsbD k = false
  have e0 : (x.toBitVec.sshiftRight k).getLsbD 0 = x.toBitVec.getLsbD k := by
    rw [BitVec.getLsbD_sshiftRight]
    simp [hk]
  constructor
  · intro h
    have t := congrArg (fun z => z.getLsbD 0) h
    rw [← e0]
    simpa using t
  · intro h
    apply BitVec.eq_of_getLsbD_eq
    intro i hi
    by_cases h0 : i = 0
    · subst h0
      rw [BitVec.getLsbD_and, e0, h]
      rfl
    · rw [BitVec.getLsbD_and, BitVec.getLsbD_one]
      simp [h0]
theorem in_63 (v : Int32) (k n : Nat) (hk : k + 1 = n) (hn : n < 1073741824) : (decide (nI 0 ≤ v) && decide (v ≤ nI k)) = inb n v := by
  apply bool_iff
  unfold inb
  rw [Bool.and_eq_true, decide_eq_true_eq, decide_eq_true_eq, decide_eq_true_eq, Int32.le_iff_toInt_le, Int32.le_iff_toInt_le, nI_toInt (by omega), nI_toInt (by omega)]
  omega
theorem in_made (v : Int32) (n : Nat) (hn : n < 1073741824) : (decide (nI 0 ≤ v) && decide (v ≤ nI n - nI 1)) = inb n v := by
  apply bool_iff
  unfold inb
  rw [Bool.and_eq_true, decide_eq_true_eq, decide_eq_true_eq, decide_eq_true_eq, Int32.le_iff_toInt_le, Int32.le_iff_toInt_le, pk_sub_toInt hn (by decide), nI_toInt (by decide)]
  omega
def src (f : Nat → Int64) (z : Int64) : Nat → Int64
  | 0 => 0
  | n + 1 => if f n &&& z = 0 then src f z n else src f z n ||| one n
theorem src_ext {f g : Nat → Int64} {z : Int64} : ∀ {n : Nat}, (∀ i, i < n → f i = g i) → src f z n = src g z n := by
  intro n
  induction n with
  | zero => intro _; rfl
  | succ n ih =>
    intro h
    unfold src
    rw [ih (fun i hi => h i (by omega)), h n (by omega)]
end
section
def ob (G : va_G) (ci a : Nat) (fs : List Value) (H : Heap) : Prop := va_at G vwCl (a, .inr (ci, fs)) H
def al (cA : ClassId) (a n : Nat) (f : Nat → Int64) (H : Heap) : Prop := H[a]? = some (vp_cell cA (n, .inr (.inl f)))
def ai (cA : ClassId) (a n : Nat) (f : Nat → Int32) (H : Heap) : Prop := H[a]? = some (vp_cell cA (n, .inl f))
def aq (cA : ClassId) (a n : Nat) (f : Nat → Option Nat) (H : Heap) : Prop := H[a]? = some (vp_cell cA (n, .inr (.inr (.inr (.inr f)))))
theorem pw_P {G : va_G} {cl : List vw_C} {q : Nat × va_E} {H : Heap} (h : va_at G cl q H) : va_P G cl [q] H := fun k q' h' => by
  cases k with
  | zero => cases h'; exact h
  | succ k => simp at h'
theorem ob_P {G : va_G} {ci a : Nat} {fs : List Value} {H : Heap} (h : ob G ci a fs H) : va_P G vwCl [(a, .inr (ci, fs))] H := pw_P h
theorem ob_k {G : va_G} {ci a : Nat} {fs : List Value} {H H1 : Heap} (h : ob G ci a fs H) (hq : H1[a]? = H[a]?) : ob G ci a fs H1 := va_at.kept h hq
theorem al_k {cA : ClassId} {a n : Nat} {f : Nat → Int64} {H H1 : Heap} (h : al cA a n f H) (hq : H1[a]? = H[a]?) : al cA a n f H1 := hq.trans h
theorem ai_k {cA : ClassId} {a n : Nat} {f : Nat → Int32} {H H1 : Heap} (h : ai cA a n f H) (hq : H1[a]? = H[a]?) : ai cA a n f H1 := hq.trans h
theorem aq_k {cA : ClassId} {a n : Nat} {f : Nat → Option Nat} {H H1 : Heap} (h : aq cA a n f H) (hq : H1[a]? = H[a]?) : aq cA a n f H1 := hq.trans h
theorem ob_lt {G : va_G} {ci a : Nat} {fs : List Value} {H : Heap} (h : ob G ci a fs H) : a < H.size := va_at.lt h
theorem al_lt {cA : ClassId} {a n : Nat} {f : Nat → Int64} {H : Heap} (h : al cA a n f H) : a < H.size := (Array.getElem?_eq_some_iff.mp h).1
theorem ai_lt {cA : ClassId} {a n : Nat} {f : Nat → Int32} {H : Heap} (h : ai cA a n f H) : a < H.size := (Array.getElem?_eq_some_iff.mp h).1
theorem aq_lt {cA : ClassId} {a n : Nat} {f : Nat → Option Nat} {H : Heap} (h : aq cA a n f H) : a < H.size := (Array.getElem?_eq_some_iff.mp h).1
theorem al_c {cA : ClassId} {a n : Nat} {f g : Nat → Int64} {H : Heap} (h : al cA a n f H) (e : ∀ j, j < n → f j = g j) : al cA a n g H := by
  have : vp_cell cA (n, .inr (.inl f)) = vp_cell cA (n, .inr (.inl g)) := by
    show arrV cA n (fun j => .long (f j)) = arrV cA n (fun j => .long (g j))
    unfold arrV
    congr 1
    apply Array.ext
    · simp
    · intro i h1 h2
      simp only [Array.getElem_ofFn]
      rw [e i (by simpa using h1)]
  exact h.trans (by rw [this])
theorem ai_c {cA : ClassId} {a n : Nat} {f g : Nat → Int32} {H : Heap} (h : ai cA a n f H) (e : ∀ j, j < n → f j = g j) : ai cA a n g H := by
  have : vp_cell cA (n, .inl f) = vp_cell cA (n, .inl g) := by
    show arrV cA n (fun j => .int (f j)) = arrV cA n (fun j => .int (g j))
    unfold arrV
    congr 1
    apply Array.ext
    · simp
    · intro i h1 h2
      simp only [Array.getElem_ofFn]
      rw [e i (by simpa using h1)]
  exact h.trans (by rw [this])
theorem aq_c {cA : ClassId} {a n : Nat} {f g : Nat → Option Nat} {H : Heap} (h : aq cA a n f H) (e : ∀ j, j < n → f j = g j) : aq cA a n g H := by
  have : vp_cell cA (n, .inr (.inr (.inr (.inr f)))) = vp_cell cA (n, .inr (.inr (.inr (.inr g)))) := by
    show arrV cA n (fun j => va_rf (f j)) = arrV cA n (fun j => va_rf (g j))
    unfold arrV
    congr 1
    apply Array.ext
    · simp
    · intro i h1 h2
      simp only [Array.getElem_ofFn]
      rw [e i (by simpa using h1)]
  exact h.trans (by rw [this])
section PW
variable {p : Program} {l : Launch} {e : Env} {R : Room} {s : State} {m : MethodId} {args : Array Value} {below : List Frame} {meth : Method} {c : Code} {H : Heap} {locs : List Loc} {cells slots : Nat} {Q : State → Prop}
variable {cc : ByteArray} {pc : Nat} {ls : Array Slot} {rest : List Value} {G : va_G} {tys : List (ClassId × FieldType)} {cA : ClassId} {a n : Nat}
theorem pw_ti {x y : Int32} (h : x = y) (k : W p l e R s m args below meth c H locs cells slots Q (F0 m pc ls (.int y :: rest))) : W p l e R s m args below meth c H locs cells slots Q (F0 m pc ls (.int x :: rest)) := by subst h; exact k
theorem pw_tl {x y : Int64} (h : x = y) (k : W p l e R s m args below meth c H locs cells slots Q (F0 m pc ls (.long y :: rest))) : W p l e R s m args below meth c H locs cells slots Q (F0 m pc ls (.long x :: rest)) := by subst h; exact k
theorem pw_tq {x : Option Nat} {a : Nat} (h : x = some a) (k : W p l e R s m args below meth c H locs cells slots Q (F0 m pc ls (.ref a :: rest))) : W p l e R s m args below meth c H locs cells slots Q (F0 m pc ls (va_rf x :: rest)) := by subst h; exact k
theorem pw_tn {x : Option Nat} (h : x = none) (k : W p l e R s m args below meth c H locs cells slots Q (F0 m pc ls (.null :: rest))) : W p l e R s m args below meth c H locs cells slots Q (F0 m pc ls (va_rf x :: rest)) := by subst h; exact k
theorem pw_nm {g : JFrame} (k : ∀ (R' : Room) (Q' : State → Prop), R' = R → Q' = Q → W p l e R' s m args below meth c H locs cells slots Q' g) : W p l e R s m args below meth c H locs cells slots Q g := k R Q rfl rfl
theorem pw_lald (hexec : p.tables.exec = Jvm.exec) (hb : c.code = cc) (hK : va_K G vwCl tys s) {f : Nat → Int64} (h : al cA a n f H) (t0 : Nat) (ht : tys[t0]? = some (cA, .long)) {k : Nat} (hk : k < n) (hn : n < 2147483648) (hdg : decode cc pc = .ok (.laload, 1))
    (kk : W p l e R s m args below meth c H locs cells slots Q (F0 m (pc + 1) ls (.long (f k) :: rest))) : W p l e R s m args below meth c H locs cells slots Q (F0 m pc ls (.int (nI k) :: .ref a :: rest)) := by
  refine va_lald (D := G) (cl := vwCl) (ws := [(a, .inl (cA, n, .inr (.inl f)))]) hexec hb hK (pw_P h) 0 t0 rfl ht (vp_in_nI hk hn) hdg ?_
  rw [nI_clamp (by omega)]
  exact kk
theorem pw_iald (hexec : p.tables.exec = Jvm.exec) (hb : c.code = cc) (hK : va_K G vwCl tys s) {f : Nat → Int32} (h : ai cA a n f H) (t0 : Nat) (ht : tys[t0]? = some (cA, .int)) {k : Nat} (hk : k < n) (hn : n < 2147483648) (hdg : decode cc pc = .ok (.iaload, 1))
    (kk : W p l e R s m args below meth c H locs cells slots Q (F0 m (pc + 1) ls (.int (f k) :: rest))) : W p l e R s m args below meth c H locs cells slots Q (F0 m pc ls (.int (nI k) :: .ref a :: rest)) := by
  refine va_iald (D := G) (cl := vwCl) (ws := [(a, .inl (cA, n, .inl f))]) hexec hb hK (pw_P h) 0 t0 rfl ht (vp_in_nI hk hn) hdg ?_
  rw [nI_clamp (by omega)]
  exact kk
theorem pw_aald (hexec : p.tables.exec = Jvm.exec) (hb : c.code = cc) (hK : va_K G vwCl tys s) {f : Nat → Option Nat} (h : aq cA a n f H) (t0 : Nat) {C : String} (ht : tys[t0]? = some (cA, .object C)) {k : Nat} (hk : k < n) (hn : n < 2147483648) (hdg : decode cc pc = .ok (.aaload, 1))
    (kk : W p l e R s m args below meth c H locs cells slots Q (F0 m (pc + 1) ls (va_rf (f k) :: rest))) : W p l e R s m args below meth c H locs cells slots Q (F0 m pc ls (.int (nI k) :: .ref a :: rest)) := by
  refine va_aldq (D := G) (cl := vwCl) (ws := [(a, .inl (cA, n, .inr (.inr (.inr (.inr f)))))]) hexec hb hK (pw_P h) 0 t0 rfl ht (vp_in_nI hk hn) hdg ?_
  rw [nI_clamp (by omega)]
  exact kk
theorem pw_last (hexec : p.tables.exec = Jvm.exec) (hb : c.code = cc) (hK : va_K G vwCl tys s) {f : Nat → Int64} (h : al cA a n f H) (t0 : Nat) (ht : tys[t0]? = some (cA, .long)) {k : Nat} (hk : k < n) (hn : n < 2147483648) {x : Int64} {F : Nat → Prop} (hF : ∀ z ∈ locs, F z.base) (hFa : F a) (hdg : decode cc pc = .ok (.lastore, 1))
    (kk : ∀ (H1 : Heap) (locs1 : List Loc), al cA a n (vp_updL f k x) H1 → H1.size = H.size → (∀ q, q ≠ a → H1[q]? = H[q]?) → (∀ z ∈ locs1, F z.base) → W p l e R s m args below meth c H1 locs1 cells slots Q (F0 m (pc + 1) ls rest)) : W p l e R s m args below meth c H locs cells slots Q (F0 m pc ls (.long x :: .int (nI k) :: .ref a :: rest)) := by
  refine W.last hexec hb h ((hK.2 t0 _ ht).1 n (fun j => .long (f j))) (fun q => by cases q) (by show ¬ (_ ∨ (arrV _ _ _).slots.size ≤ _); rw [arrV_size]; exact vp_in_nI hk hn) rfl rfl hdg fun H1 e1 z oq => ?_
  refine kk H1 _ ?_ z oq (t_lc hF hFa)
  show H1[a]? = some (vp_cell _ _)
  rw [e1, nI_clamp (by omega)]
  rw [vp_cell_l, vp_cell_l, arrV_store]
  congr 2
  funext q
  by_cases hq : q = k
  · subst hq
    simp [updV, vp_updL]
  · simp [updV, vp_updL, hq]
theorem pw_iast (hexec : p.tables.exec = Jvm.exec) (hb : c.code = cc) (hK : va_K G vwCl tys s) {f : Nat → Int32} (h : ai cA a n f H) (t0 : Nat) (ht : tys[t0]? = some (cA, .int)) {k : Nat} (hk : k < n) (hn : n < 2147483648) {x : Int32} {F : Nat → Prop} (hF : ∀ z ∈ locs, F z.base) (hFa : F a) (hdg : decode cc pc = .ok (.iastore, 1))
    (kk : ∀ (H1 : Heap) (locs1 : List Loc), ai cA a n (upd f k x) H1 → H1.size = H.size → (∀ q, q ≠ a → H1[q]? = H[q]?) → (∀ z ∈ locs1, F z.base) → W p l e R s m args below meth c H1 locs1 cells slots Q (F0 m (pc + 1) ls rest)) : W p l e R s m args below meth c H locs cells slots Q (F0 m pc ls (.int x :: .int (nI k) :: .ref a :: rest)) := by
  refine W.iast hexec hb h ((hK.2 t0 _ ht).1 n (fun j => .int (f j))) (fun q => by cases q) (by show ¬ (_ ∨ (arrV _ _ _).slots.size ≤ _); rw [arrV_size]; exact vp_in_nI hk hn) rfl rfl hdg fun H1 e1 z oq => ?_
  refine kk H1 _ ?_ z oq (t_lc hF hFa)
  show H1[a]? = some (vp_cell _ _)
  rw [e1, nI_clamp (by omega)]
  rw [vp_cell_i, vp_cell_i, arrV_store]
  congr 2
  funext q
  by_cases hq : q = k
  · subst hq
    simp [updV, upd]
  · simp [updV, upd, hq]
theorem pw_put (hexec : p.tables.exec = Jvm.exec) (hb : c.code = cc) {own ref C : String} {T : u_T} {N ci index : Nat} {Ts : List Cond} (hts : ∀ w ∈ Ts, w.before args s = true) (hin : ∀ w ∈ u_ws C T N, w ∈ Ts) (ty0 : Nat → FieldType) (hty : ∀ k, k < N → parseFieldDescriptor (T k).2.2.1 = some (ty0 k)) (hnm : ∀ a, a < N → ∀ b, b < N → a ≠ b → (T a).2.1 ≠ (T b).2.1) (hown : s.vm.findClass own = some m.cls) (hK : va_K G vwCl tys s) {fs : List Value} (h : ob G ci a fs H) (hc : vwCl[ci]? = some (C, T, N)) (k : Nat) (hk : k < N) (hlink : (Cond.fieldLink own index ref (T k).2.1 (T k).2.2.1).before args s = true) (hsame : ∀ x, s.fieldFound? (T k).1 (T k).2.1 (T k).2.2.1 = some x → s.fieldFound? ref (T k).2.1 (T k).2.2.1 = some x) (hfin : (T k).2.2.2 = false) {ty : FieldType} {v : Value} (hd : parseFieldDescriptor (T k).2.2.1 = some ty) (hn : narrow ty v = v) (hfit : fits ty v = true) (hl : k < fs.length)
    {F : Nat → Prop} (hF : ∀ z ∈ locs, F z.base) (hFa : F a) (hdg : decode cc pc = .ok (.putfield index, 3)) (kk : ∀ (H1 : Heap) (locs1 : List Loc), ob G ci a (fs.set k v) H1 → H1.size = H.size → (∀ q, q ≠ a → H1[q]? = H[q]?) → (∀ z ∈ locs1, F z.base) → W p l e R s m args below meth c H1 locs1 cells slots Q (F0 m (pc + 3) ls rest)) : W p l e R s m args below meth c H locs cells slots Q (F0 m pc ls (v :: .ref a :: rest)) := by
  have hap := va_apart (own := own) hts hin ty0 hty hnm hK hc
  obtain ⟨r, h1, cell, q1, q2, q3, q4⟩ := h
  have hr : r = (C, T, N) := Option.some.inj (h1.symm.trans hc)
  subst hr
  obtain ⟨hS, hfc, kC, hkC, hkind⟩ := hK.1 ci _ hc
  obtain ⟨cf, kf, fi, f, hi, hsl⟩ := hS k hk
  have hlay := hts _ (hin _ (u_in_lay hk))
  unfold u_lay at hlay
  rw [if_neg (by rw [hfin]; decide)] at hlay
  have hst := (u_facts hfc hkC (u_lays hts hin hk) hi).1
  have h6 := u_store hfc hkC hkind hlay hi hd hn hfit
  refine W.putK hexec hb (f := f) ⟨hown, hlink, ⟨_, _, _, hsame _ hi⟩, hst⟩ (by rw [q2]; exact h6) q1 q3 (by rw [hsl]; exact k2_hasslot (q4 k hk)) rfl rfl hdg fun H' e1 e2 e3 => ?_
  rw [hsl] at e1 ⊢
  exact kk H' _ ⟨_, hc, t_OB.to (V := updV (vp_V fs) k v) ⟨_, e1, q2, q3, t_set q4 hap hk v⟩ (fun j _ => vp_updV_set hl v j)⟩ e2 e3 (t_lc hF hFa)
theorem pw_new (hexec : p.tables.exec = Jvm.exec) (hb : c.code = cc) {own C : String} {T : u_T} {N ci index : Nat} {Ts : List Cond} (hts : ∀ w ∈ Ts, w.before args s = true) (hin : ∀ w ∈ u_ws C T N, w ∈ Ts) (ty : Nat → FieldType) (hty : ∀ k, k < N → parseFieldDescriptor (T k).2.2.1 = some (ty k)) (hown : s.vm.findClass own = some m.cls) (hcl : (Cond.classLink own index C).before args s = true) (hinst : (Cond.instantiable C N).before args s = true) (hini : (Cond.initialized C).before args s = true)
    (hK : va_K G vwCl tys s) (hc : vwCl[ci]? = some (C, T, N)) {fs : List Value} (hfs : ∀ j, j < N → defaultValue (ty j) = vp_V fs j) (hcells : cells + 1 ≤ R.cells) (hslots : slots + N ≤ R.slots) (hdg : decode cc pc = .ok (.new index, 3))
    (kk : ∀ (H1 : Heap), ob G ci H.size fs H1 → H1.size = H.size + 1 → (∀ q, q < H.size → H1[q]? = H[q]?) →
      W p l e R s m args below meth c H1 locs (cells + 1) (slots + N) Q (F0 m (pc + 3) ls (.ref H.size :: rest))) : W p l e R s m args below meth c H locs cells slots Q (F0 m pc ls rest) := by
  have hKn := hK.1 ci _ hc
  refine W.newcK hexec hb hown hcl hinst hini rfl hdg hcells hslots hKn.2.1 rfl fun H1 kC hkC e1 z1 o1 => ?_
  exact kk H1 ⟨_, hc, (u_born ty hts hin hKn hkC e1 hty).to hfs⟩ z1 o1
theorem pw_newl (hexec : p.tables.exec = Jvm.exec) (hb : c.code = cc) (harr : (Cond.arrayClass .long).before args s = true) (hK : va_K G vwCl tys s) (t0 : Nat) (ht : tys[t0]? = some (cA, .long)) {N : Nat} (hN : N < 67108864) (hcells : cells + 1 ≤ R.cells) (hslots : slots + N ≤ R.slots) (hdg : decode cc pc = .ok (.newarray .long, 2))
    (kk : ∀ (H1 : Heap), al cA H.size N (fun _ => 0) H1 → H1.size = H.size + 1 → (∀ q, q < H.size → H1[q]? = H[q]?) →
      W p l e R s m args below meth c H1 locs (cells + 1) (slots + N) Q (F0 m (pc + 2) ls (.ref H.size :: rest))) : W p l e R s m args below meth c H locs cells slots Q (F0 m pc ls (.int (nI N) :: rest)) := by
  refine va_newaK (atype := .long) hexec hb harr rfl hdg rfl (nI_pos (by omega)) (nI_clamp (by omega)) (by show N * 8 ≤ 536870912; omega) hcells hslots rfl fun H1 cB e1 z1 o1 hAr hNm => ?_
  have hc : cB = cA := Option.some.inj (hNm.symm.trans (hK.2 t0 _ ht).2)
  subst hc
  exact kk H1 e1 z1 o1
theorem pw_newi (hexec : p.tables.exec = Jvm.exec) (hb : c.code = cc) (harr : (Cond.arrayClass .int).before args s = true) (hK : va_K G vwCl tys s) (t0 : Nat) (ht : tys[t0]? = some (cA, .int)) {N : Nat} (hN : N < 67108864) (hcells : cells + 1 ≤ R.cells) (hslots : slots + N ≤ R.slots) (hdg : decode cc pc = .ok (.newarray .int, 2))
    (kk : ∀ (H1 : Heap), ai cA H.size N (fun _ => 0) H1 → H1.size = H.size + 1 → (∀ q, q < H.size → H1[q]? = H[q]?) →
      W p l e R s m args below meth c H1 locs (cells + 1) (slots + N) Q (F0 m (pc + 2) ls (.ref H.size :: rest))) : W p l e R s m args below meth c H locs cells slots Q (F0 m pc ls (.int (nI N) :: rest)) := by
  refine va_newaK (atype := .int) hexec hb harr rfl hdg rfl (nI_pos (by omega)) (nI_clamp (by omega)) (by show N * 4 ≤ 536870912; omega) hcells hslots rfl fun H1 cB e1 z1 o1 hAr hNm => ?_
  have hc : cB = cA := Option.some.inj (hNm.symm.trans (hK.2 t0 _ ht).2)
  subst hc
  exact kk H1 e1 z1 o1
theorem pw_call {st0 : List Value} {mc ms : Nat} {Qa : State → Outcome → State → Prop} {free F : Addr → Prop} (hr : va_Run p l e R s m args below meth c H locs cells slots mc ms (F0 m pc ls st0) rest Qa free) (hF : ∀ z ∈ locs, F z.base) (hf : ∀ q, free q → F q)
    (kk : ∀ (v : Option Value) (st₀ t : State) (locs1 : List Loc), st₀.heap = H → s.vm.Alike t.vm → (∀ z ∈ locs1, F z.base) → Qa st₀ (.returned v) t → W p l e R s m args below meth c t.heap locs1 (cells + mc) (slots + ms) Q (F0 m (pc + 3) ls (v.toList ++ rest))) : W p l e R s m args below meth c H locs cells slots Q (F0 m pc ls st0) := by
  intro T hT X
  obtain ⟨v, st₀, t, T', L, h0, X', hL, e1, e2, hq, st⟩ := hr T hT X
  obtain ⟨t2, a1, b1⟩ := kk v st₀ t (locs ++ L) h0 (by rw [← e2]; exact X'.warmed.alike) (fun z hz => (List.mem_append.mp hz).elim (hF z) (fun h => hf _ (hL z h))) hq T' e1 X'
  exact ⟨t2, st t2 a1, b1⟩
theorem px_call {st0 : List Value} {mc ms : Nat} {Qa : State → Outcome → State → Prop} {XC : String → State → State → Prop} {free F : Addr → Prop} (hr : vx_Run p l e R s m args below meth c H locs cells slots mc ms (F0 m pc ls st0) rest Qa XC free) (hF : ∀ z ∈ locs, F z.base) (hf : ∀ q, free q → F q)
    (kx : ∀ (E : String) (ce : Cell) (q9 : Addr) (st₀ t : State) (locs1 : List Loc), st₀.heap = H → s.vm.Alike t.vm → (∀ z ∈ locs1, F z.base) → XC E st₀ t → t.heap[q9]? = some ce → ce.vm = .none → s.vm.findClass E = some ce.cls → vx_W p l e R s m args below meth c t.heap locs1 (cells + mc) (slots + ms) Q (F0 m pc ls rest) q9)
    (kk : ∀ (v : Option Value) (st₀ t : State) (locs1 : List Loc), st₀.heap = H → s.vm.Alike t.vm → (∀ z ∈ locs1, F z.base) → Qa st₀ (.returned v) t → W p l e R s m args below meth c t.heap locs1 (cells + mc) (slots + ms) Q (F0 m (pc + 3) ls (v.toList ++ rest))) : W p l e R s m args below meth c H locs cells slots Q (F0 m pc ls st0) := by
  intro T hT X
  rcases hr T hT X with ⟨v, st₀, t, T', L, h0, X', hL, e1, e2, hq, st⟩ | ⟨q, st₀, t, T', L, E, ce, h0, X', hL, e1, e2, hq, hce, hcv, hcl, st⟩
  · obtain ⟨t2, a1, b1⟩ := kk v st₀ t (locs ++ L) h0 (by rw [← e2]; exact X'.warmed.alike) (fun z hz => (List.mem_append.mp hz).elim (hF z) (fun h => hf _ (hL z h))) hq T' e1 X'
    exact ⟨t2, st t2 a1, b1⟩
  · obtain ⟨t2, a1, b1⟩ := kx E ce q st₀ t (locs ++ L) h0 (by rw [← e2]; exact X'.warmed.alike) (fun z hz => (List.mem_append.mp hz).elim (hF z) (fun h => hf _ (hL z h))) hq hce hcv hcl T' e1 X'
    exact ⟨t2, st.trans a1, b1⟩
end PW
def gnws : List Cond := [.methodLinkNest RQ 22 yV_has RV, .methodLinkNest RQ 30 yV_valueOf RV, .methodLinkNest RT 39 yV_weightOf RV, .castable "java/lang/IllegalArgumentException" "java/lang/IllegalArgumentException", .castable "java/lang/UnsupportedOperationException" "java/lang/UnsupportedOperationException", .castable "java/lang/IllegalStateException" "java/lang/IllegalStateException", .castable "java/util/NoSuchElementException" "java/util/NoSuchElementException", .declares ⟨"java/lang/RuntimeException", "<init>", "()V"⟩, .declares ⟨"java/lang/Exception", "<init>", "()V"⟩, .declares ⟨"java/lang/Throwable", "<init>", "()V"⟩]
theorem gnws_t : ∀ w ∈ gnws, w.onTables = true := by decide +kernel
theorem gnws_w {s U : State} (hW : s.WarmedH U.vm) : ∀ w ∈ gnws, va_Nw w s → va_Nw w U :=
  List.forall_mem_cons.mpr ⟨va_Nw.warmM hW, List.forall_mem_cons.mpr ⟨va_Nw.warmM hW, List.forall_mem_cons.mpr ⟨va_Nw.warmM hW, List.forall_mem_cons.mpr ⟨va_Nw.warmC hW, List.forall_mem_cons.mpr ⟨va_Nw.warmC hW, List.forall_mem_cons.mpr ⟨va_Nw.warmC hW, List.forall_mem_cons.mpr ⟨va_Nw.warmC hW, List.forall_mem_cons.mpr ⟨va_Nw.warmD hW, List.forall_mem_cons.mpr ⟨va_Nw.warmD hW, List.forall_mem_cons.mpr ⟨va_Nw.warmD hW, fun _ h => absurd h List.not_mem_nil⟩⟩⟩⟩⟩⟩⟩⟩⟩⟩
def tyl (cA : Nat → ClassId) : List (ClassId × FieldType) := [(cA 0, .long), (cA 1, .int), (cA 2, .object RP), (cA 3, .boolean)]
def KN (G : va_G) (cA : Nat → ClassId) (U : State) : Prop := va_K G vwCl (tyl cA) U ∧ (∀ w ∈ gnws, va_Nw w U) ∧ va_AO RP U
theorem KN.n {G : va_G} {cA : Nat → ClassId} {U : State} {w : Cond} (h : KN G cA U) (hw : w ∈ gnws) : va_Nw w U := h.2.1 w hw
theorem KN.mv {G : va_G} {cA : Nat → ClassId} {s U : State} (hW : s.WarmedH U.vm) (h : KN G cA s) : KN G cA U := ⟨va_K.moved hW.alike h.1, fun w hw => gnws_w hW w hw (h.2.1 w hw), va_AO.moved hW.alike h.2.2⟩
theorem KN.cl {G : va_G} {cA : Nat → ClassId} {U : State} {g : JFrame} {mk : MethodId} {a : Array Value} (h : KN G cA U) : KN G cA (U.calling g mk a) := ⟨va_K.moved (u := U) (U := U.calling g mk a) (Vm.Alike.refl U.vm) h.1, fun w hw => va_Nw.same (u := U) (U := U.calling g mk a) (gnws_t w hw) rfl (h.2.1 w hw), va_AO.moved (u := U) (U := U.calling g mk a) (Vm.Alike.refl U.vm) h.2.2⟩
theorem gd_m {y : MethodName} {c : ByteArray} {ml : Nat} {r : Option FieldType} (h4 : Cond.code y c ml r ∈ ALL) : GoodIn ALL (.code y c ml r :: ALL) := fun w h => (List.mem_cons.mp h).elim (fun e => ⟨by rw [e]; exact h4, by rw [e]; exact good_of_word (ALL_g _ h4)⟩) (fun h => ⟨h, good_of_word (ALL_g _ h)⟩)
theorem gd_S {own : String} {idx : Nat} {y : MethodName} {c : ByteArray} {ml : Nat} {r : Option FieldType} (h1 : Cond.methodLink own idx y ∈ ALL) (h2 : Cond.static y ∈ ALL) (h3 : Cond.initialized y.cls ∈ ALL) (h4 : Cond.code y c ml r ∈ ALL) : GoodIn ALL (va_wsS own idx y (.code y c ml r :: ALL)) := by
  intro w h
  unfold va_wsS at h
  rcases List.mem_append.mp h with h | h
  · simp only [List.mem_cons, List.not_mem_nil, or_false] at h
    rcases h with rfl | rfl | rfl
    · exact ⟨h1, good_of_word (ALL_g _ h1)⟩
    · exact ⟨h2, good_of_word (ALL_g _ h2)⟩
    · exact ⟨h3, good_of_word (ALL_g _ h3)⟩
  · exact gd_m h4 w h
theorem gd_V {own C : String} {idx : Nat} {y : MethodName} {c : ByteArray} {ml : Nat} {r : Option FieldType} (h1 : Cond.methodLink own idx y ∈ ALL) (h2 : Cond.instanceMethod y ∈ ALL) (h3 : Cond.selects C y y ∈ ALL) (h5 : Cond.initialized C ∈ ALL) (h4 : Cond.code y c ml r ∈ ALL) : GoodIn ALL (wsV own idx C y (.code y c ml r :: ALL)) := by
  intro w h
  unfold wsV at h
  rcases List.mem_append.mp h with h | h
  · simp only [List.mem_cons, List.not_mem_nil, or_false] at h
    rcases h with rfl | rfl | rfl | rfl
    · exact ⟨h1, good_of_word (ALL_g _ h1)⟩
    · exact ⟨h2, good_of_word (ALL_g _ h2)⟩
    · exact ⟨h3, good_of_word (ALL_g _ h3)⟩
    · exact ⟨h5, good_of_word (ALL_g _ h5)⟩
  · exact gd_m h4 w h
def PH (G : va_G) (cA : Nat → ClassId) (av : List Value) (Pre : Heap → Prop) : Array Value → State → Prop := va_Pc av (fun U => KN G cA U ∧ Pre U.heap)
section PK
variable {p : Program} {l : Launch} {e : Env} {R : Room} {s : State} {m : MethodId} {args : Array Value} {below : List Frame} {meth : Method} {c : Code} {H : Heap} {locs : List Loc} {cells slots : Nat} {Q : State → Prop}
variable {cc : ByteArray} {pc : Nat} {ls : Array Slot} {rest : List Value} {G : va_G} {cA : Nat → ClassId}
theorem pw_bl {av : List Value} {Pre : Heap → Prop} : FrameBlind (PH G cA av Pre) := fun a U g mk q => ⟨q.1, q.2.1.cl, q.2.2⟩
theorem pw_S {av : List Value} {Pre : Heap → Prop} (hK : KN G cA s) (h : Pre H) : PreS s H (PH G cA av Pre) av := ⟨pw_bl, fun U hU hW => ⟨rfl, hK.mv hW, by rw [hU]; exact h⟩⟩
theorem pw_V {av : List Value} {Pre : Heap → Prop} {ci b : Nat} {fs : List Value} {q : vw_C} (hK : KN G cA s) (ho : ob G ci b fs H) (hc : vwCl[ci]? = some q) (h : Pre H) : PreV s H q.1 b (PH G cA (.ref b :: av) Pre) av := ⟨pw_bl, va_recv hK.1 (ob_P ho) (q0 := 0) hc rfl, fun U hU hW => ⟨rfl, hK.mv hW, by rw [hU]; exact h⟩⟩
theorem pw_entry {vs : List Value} {n : Nat} (ha : args = vs.toArray) (h : (lg_sl vs).length ≤ n) (k : ∀ ls : Array Slot, lv_has ls n (lv_args 0 vs) → W p l e R s m args below meth c H locs cells slots Q (F0 m 0 ls [])) : W p l e R s m args below meth c H locs cells slots Q (entryFrame m args n) := by
  have e1 : entryFrame m args n = F0 m 0 ((lg_sl vs ++ List.replicate (n - (lg_sl vs).length) Slot.unset).toArray) [] := by rw [ha]; exact lg_entry_eq m vs n
  rw [e1]
  exact k _ (lv_entry vs h)
end PK
end
section
section PZ
variable {p : Program} {l : Launch} {e : Env} {R : Room} {s : State} {m : MethodId} {args : Array Value} {below : List Frame} {meth : Method} {c : Code} {H : Heap} {locs : List Loc} {cells slots : Nat} {Q : State → Prop}
variable {cc : ByteArray} {pc : Nat} {ls : Array Slot} {rest : List Value} {G : va_G} {tys : List (ClassId × FieldType)} {cA : ClassId} {a n : Nat}
theorem pw_zald (hexec : p.tables.exec = Jvm.exec) (hb : c.code = cc) (hK : va_K G vwCl tys s) {f : Nat → Int32} (h : ai cA a n f H) (t0 : Nat) (ht : tys[t0]? = some (cA, .boolean)) {k : Nat} (hk : k < n) (hn : n < 2147483648) (hdg : decode cc pc = .ok (.baload, 1))
    (kk : W p l e R s m args below meth c H locs cells slots Q (F0 m (pc + 1) ls (.int (f k) :: rest))) : W p l e R s m args below meth c H locs cells slots Q (F0 m pc ls (.int (nI k) :: .ref a :: rest)) := by
  refine va_zald (D := G) (cl := vwCl) (ws := [(a, .inl (cA, n, .inl f))]) hexec hb hK (pw_P h) 0 t0 rfl ht (vp_in_nI hk hn) hdg ?_
  rw [nI_clamp (by omega)]
  exact kk
theorem pw_zast (hexec : p.tables.exec = Jvm.exec) (hb : c.code = cc) (hK : va_K G vwCl tys s) {f : Nat → Int32} (h : ai cA a n f H) (t0 : Nat) (ht : tys[t0]? = some (cA, .boolean)) {k : Nat} (hk : k < n) (hn : n < 2147483648) {x : Int32} (hx : narrow .boolean (.int x) = .int x) {F : Nat → Prop} (hF : ∀ z ∈ locs, F z.base) (hFa : F a) (hdg : decode cc pc = .ok (.bastore, 1))
    (kk : ∀ (H1 : Heap) (locs1 : List Loc), ai cA a n (upd f k x) H1 → H1.size = H.size → (∀ q, q ≠ a → H1[q]? = H[q]?) → (∀ z ∈ locs1, F z.base) → W p l e R s m args below meth c H1 locs1 cells slots Q (F0 m (pc + 1) ls rest)) : W p l e R s m args below meth c H locs cells slots Q (F0 m pc ls (.int x :: .int (nI k) :: .ref a :: rest)) := by
  refine W.zast hexec hb h ((hK.2 t0 _ ht).1 n (fun j => .int (f j))) (fun q => by cases q) (by show ¬ (_ ∨ (arrV _ _ _).slots.size ≤ _); rw [arrV_size]; exact vp_in_nI hk hn) rfl rfl hdg fun H1 e1 z oq => ?_
  refine kk H1 _ ?_ z oq (t_lc hF hFa)
  show H1[a]? = some (vp_cell _ _)
  rw [e1, nI_clamp (by omega), hx]
  rw [vp_cell_i, vp_cell_i, arrV_store]
  congr 2
  funext q
  by_cases hq : q = k
  · subst hq
    simp [updV, upd]
  · simp [updV, upd, hq]
end PZ
abbrev mF (th : Int32) (ao af n : Nat) (lw hg : Int64) (sa ea : Nat) : List Value := [.int th, .ref ao, .ref af, .int (nI n), .long lw, .long hg, .ref sa, .ref ea]
def mA (mo ao af sa ea : Nat) : Prop := ao ≠ mo ∧ af ≠ mo ∧ sa ≠ mo ∧ ea ≠ mo ∧ ao ≠ sa ∧ ao ≠ ea ∧ af ≠ sa ∧ af ≠ ea ∧ sa ≠ ea ∧ ao ≠ af
def mvS (G : va_G) (cA : Nat → ClassId) (mo ao af sa ea n : Nat) (fo : Nat → Int64) (fb : Nat → Int32) (th : Int32) (lw hg : Int64) (fS fE : Nat → Int32) (H : Heap) : Prop :=
  ob G 4 mo (mF th ao af n lw hg sa ea) H ∧ al (cA 0) ao 3200 fo H ∧ ai (cA 3) af 50 fb H ∧ ai (cA 1) sa 64 fS H ∧ ai (cA 1) ea 64 fE H
def mV (G : va_G) (cA : Nat → ClassId) (mo ao af sa ea n : Nat) (fo : Nat → Int64) (fb : Nat → Int32) (th : Int32) (H : Heap) : Prop := ∃ (lw hg : Int64) (fS fE : Nat → Int32), mvS G cA mo ao af sa ea n fo fb th lw hg fS fE H
def mI (G : va_G) (cA : Nat → ClassId) (mo ao af sa ea n : Nat) (fo : Nat → Int64) (fb : Nat → Int32) (rel : Int32 → Int32 → Prop) : Array Value → State → Outcome → State → Prop := fun _ st o t =>
  ∃ (r th : Int32), o = .returned (some (.int r)) ∧ rel r th ∧ mV G cA mo ao af sa ea n fo fb th t.heap ∧ t.heap.size = st.heap.size ∧ ∀ q, q ≠ mo → q ≠ sa → q ≠ ea → t.heap[q]? = st.heap[q]?
def mL (G : va_G) (cA : Nat → ClassId) (mo ao af sa ea n : Nat) (fo : Nat → Int64) (fb : Nat → Int32) (rel : Int64 → Int32 → Prop) : Array Value → State → Outcome → State → Prop := fun _ st o t =>
  ∃ (r : Int64) (th : Int32), o = .returned (some (.long r)) ∧ rel r th ∧ mV G cA mo ao af sa ea n fo fb th t.heap ∧ t.heap.size = st.heap.size ∧ ∀ q, q ≠ mo → q ≠ sa → q ≠ ea → t.heap[q]? = st.heap[q]?
def mW (mo sa ea : Nat) : Nat → Prop := fun q => q = mo ∨ q = sa ∨ q = ea
end
section
set_option maxRecDepth 100000 in
set_option maxHeartbeats 4000000 in
theorem c_only (l : Launch) (G : va_G) (cA : Nat → ClassId) (k : Nat) : Met l yV_only wsV_only ({ frames := 0, cells := 0, slots := 0, locals := 0 }) (PH G cA [.int (nI k)] (fun H => True)) (vp_Sl (fun r => r = one k)) 0 0 (fun _ => False) := by
  refine Met.ofW (cc := cV_only) (maxL := 1) (ret := (some .long)) (by decide) rfl ?_
  intro p e s m args below meth c s₁ B hml hv
  obtain ⟨hav, hKN, -⟩ := hv
  have hK := hKN.1
  have hx := B.exec
  have hb := B.bytes
  have hrt := B.returns
  have htA : ∀ w ∈ ALL, w.before args s = true := fun w h => atoms_spec (ws := wsV_only) B.pre w (List.mem_cons_of_mem _ h)
  have hown : s.vm.findClass RV = some m.cls := findClass_of_methodNamed B.named
  have hlocks := B.notSynchronized
  refine pw_nm (fun R Q hR hQ => ?_)
  refine pw_entry (vs := [.int (nI k)]) hav (Nat.le_of_ble_eq_true rfl) (fun ls hl => ?_)
  have hl : lv_has ls 1 [(0, .int (nI k))] := hl
  refine lv_lconst (v := 1) hx hb dV_only_0 rfl ?_
  refine lv_iload_n hx hb dV_only_1 rfl (lv_at hl 0 rfl) ?_
  refine lv_lshl hx hb dV_only_2 rfl ?_
  rw [hQ]
  exact W.lret (v := 1 <<< ((nI k).toInt64 &&& 63)) hx hb hrt (fun t ht hW => ⟨_, rfl, rfl, ht⟩) (fun q h => by cases h) dV_only_3

set_option maxRecDepth 100000 in
set_option maxHeartbeats 4000000 in
theorem c_has (l : Launch) (G : va_G) (cA : Nat → ClassId) (z : Int64) (k : Nat) (hk : k < 64) : Met l yV_has wsV_has ({ frames := 0, cells := 0, slots := 0, locals := 0 }) (PH G cA [.long z, .int (nI k)] (fun H => True)) (vp_Si (fun r => r = bI (hbit z k))) 0 0 (fun _ => False) := by
  refine Met.ofW (cc := cV_has) (maxL := 3) (ret := (some .boolean)) (by decide) rfl ?_
  intro p e s m args below meth c s₁ B hml hv
  obtain ⟨hav, hKN, -⟩ := hv
  have hK := hKN.1
  have hx := B.exec
  have hb := B.bytes
  have hrt := B.returns
  have htA : ∀ w ∈ ALL, w.before args s = true := fun w h => atoms_spec (ws := wsV_has) B.pre w (List.mem_cons_of_mem _ h)
  have hown : s.vm.findClass RV = some m.cls := findClass_of_methodNamed B.named
  have hlocks := B.notSynchronized
  refine pw_nm (fun R Q hR hQ => ?_)
  refine pw_entry (vs := [.long z, .int (nI k)]) hav (Nat.le_of_ble_eq_true rfl) (fun ls hl => ?_)
  have hl : lv_has ls 3 [(0, .long z), (2, .int (nI k))] := hl
  refine lv_lload_n hx hb dV_has_0 rfl (lv_at hl 0 rfl) ?_
  refine lv_iload_n hx hb dV_has_1 rfl (lv_at hl 1 rfl) ?_
  refine lv_lushr hx hb dV_has_2 rfl ?_
  refine lv_lconst (v := 1) hx hb dV_has_3 rfl ?_
  refine lv_land hx hb dV_has_4 ?_
  refine lv_lconst (v := 0) hx hb dV_has_5 rfl ?_
  refine W.lcmp hx hb dV_has_6 ?_
  refine lv_if_eq (tgt := 14) hx hb dV_has_7 (by decide) (fun c1 => ?_) (fun c1 => ?_)
  · have hq : hbit z k = false := (hb_shr z hk).mp ((cmp0 _ _).mp c1)
    refine lv_iconst (v := nI 0) hx hb dV_has_14 (by decide) ?_
    rw [hQ]
    exact W.zret (v := nI 0) (ty := .boolean) hx hb hrt (by first | rfl | exact bI_nar _) (fun t ht hW => ⟨_, rfl, (by rw [hq]; rfl), ht⟩) (fun q h => by cases h) dV_has_15
  · have hq : hbit z k = true := ts_nf (fun hz => c1 ((cmp0 _ _).mpr ((hb_shr z hk).mpr hz)))
    refine lv_iconst (v := nI 1) hx hb dV_has_10 (by decide) ?_
    refine lv_goto (tgt := 15) hx hb dV_has_11 (by decide) ?_
    rw [hQ]
    exact W.zret (v := nI 1) (ty := .boolean) hx hb hrt (by first | rfl | exact bI_nar _) (fun t ht hW => ⟨_, rfl, (by rw [hq]; rfl), ht⟩) (fun q h => by cases h) dV_has_15

set_option maxRecDepth 100000 in
set_option maxHeartbeats 4000000 in
theorem c_shiftOf (l : Launch) (G : va_G) (cA : Nat → ClassId) (a : Nat) (ha : a < 3) : Met l yV_shiftOf wsV_shiftOf ({ frames := 0, cells := 0, slots := 0, locals := 0 }) (PH G cA [.int (nI a)] (fun H => True)) (vp_Si (fun r => r = nI (2 * (2 - a)))) 0 0 (fun _ => False) := by
  refine Met.ofW (cc := cV_shiftOf) (maxL := 1) (ret := (some .int)) (by decide) rfl ?_
  intro p e s m args below meth c s₁ B hml hv
  obtain ⟨hav, hKN, -⟩ := hv
  have hK := hKN.1
  have hx := B.exec
  have hb := B.bytes
  have hrt := B.returns
  have htA : ∀ w ∈ ALL, w.before args s = true := fun w h => atoms_spec (ws := wsV_shiftOf) B.pre w (List.mem_cons_of_mem _ h)
  have hown : s.vm.findClass RV = some m.cls := findClass_of_methodNamed B.named
  have hlocks := B.notSynchronized
  refine pw_nm (fun R Q hR hQ => ?_)
  refine pw_entry (vs := [.int (nI a)]) hav (Nat.le_of_ble_eq_true rfl) (fun ls hl => ?_)
  have hl : lv_has ls 1 [(0, .int (nI a))] := hl
  refine lv_iconst (v := nI 2) hx hb dV_shiftOf_0 (by decide) ?_
  refine lv_iconst (v := nI 2) hx hb dV_shiftOf_1 (by decide) ?_
  refine lv_iload_n hx hb dV_shiftOf_2 rfl (lv_at hl 0 rfl) ?_
  refine lv_isub hx hb dV_shiftOf_3 ?_
  refine lv_imul hx hb dV_shiftOf_4 ?_
  rw [hQ]
  exact W.iret (v := (nI 2) * ((nI 2) - (nI a))) hx hb hrt (fun t ht hW => ⟨_, rfl, (i_shift a ha), ht⟩) (fun q h => by cases h) dV_shiftOf_5

set_option maxRecDepth 100000 in
set_option maxHeartbeats 4000000 in
theorem c_weightOf (l : Launch) (G : va_G) (cA : Nat → ClassId) (a : Nat) (ha : a < 3) : Met l yV_weightOf wsV_weightOf ({ frames := 1, cells := 0, slots := 0, locals := 20 }) (PH G cA [.int (nI a)] (fun H => True)) (vp_Si (fun r => r = nI (4 ^ (2 - a)))) 0 0 (fun _ => False) := by
  refine Met.ofW (cc := cV_weightOf) (maxL := 1) (ret := (some .int)) (by decide) rfl ?_
  intro p e s m args below meth c s₁ B hml hv
  obtain ⟨hav, hKN, -⟩ := hv
  have hK := hKN.1
  have hx := B.exec
  have hb := B.bytes
  have hrt := B.returns
  have htA : ∀ w ∈ ALL, w.before args s = true := fun w h => atoms_spec (ws := wsV_weightOf) B.pre w (List.mem_cons_of_mem _ h)
  have hown : s.vm.findClass RV = some m.cls := findClass_of_methodNamed B.named
  have hlocks := B.notSynchronized
  refine pw_nm (fun R Q hR hQ => ?_)
  refine pw_entry (vs := [.int (nI a)]) hav (Nat.le_of_ble_eq_true rfl) (fun ls hl => ?_)
  have hl : lv_has ls 1 [(0, .int (nI a))] := hl
  refine lv_iconst (v := nI 1) hx hb dV_weightOf_0 (by decide) ?_
  refine lv_iload_n hx hb dV_weightOf_1 rfl (lv_at hl 0 rfl) ?_
  refine vp_callSi (va_Run.run (va_runS (As := [.int (nI a)]) (rest := [.int (nI 1)]) ⟨hx, hb, hml, hown, htA⟩ (c_shiftOf l G cA a ha) (va_cwS 1 htA (gd_S wd220 wd221 wd26 wd222) rfl rfl rfl (by decide +kernel) (by rw [hR]; exact ⟨Nat.le_of_ble_eq_true rfl, Nat.le_of_ble_eq_true rfl⟩)) (pw_S hKN trivial) rfl rfl hl.1 rfl (lv_room (Nat.le_of_ble_eq_true rfl)) dV_weightOf_2 (by rw [hR]; exact ⟨Nat.le_of_ble_eq_true rfl, Nat.le_of_ble_eq_true rfl⟩))) (fun r1 hr1 => ?_)
  subst hr1
  refine lv_ishl hx hb dV_weightOf_5 ?_
  rw [hQ]
  exact W.iret (v := (nI 1) <<< ((nI (2 * (2 - a))) &&& 31)) hx hb hrt (fun t ht hW => ⟨_, rfl, (i_weight a ha), ht⟩) (fun q h => by cases h) dV_weightOf_6

set_option maxRecDepth 100000 in
set_option maxHeartbeats 4000000 in
theorem c_valueOf (l : Launch) (G : va_G) (cA : Nat → ClassId) (x : Nat) (hx0 : x < 64) (a : Nat) (ha : a < 3) : Met l yV_valueOf wsV_valueOf ({ frames := 1, cells := 0, slots := 0, locals := 20 }) (PH G cA [.int (nI x), .int (nI a)] (fun H => True)) (vp_Si (fun r => r = nI (vl x a))) 0 0 (fun _ => False) := by
  refine Met.ofW (cc := cV_valueOf) (maxL := 2) (ret := (some .int)) (by decide) rfl ?_
  intro p e s m args below meth c s₁ B hml hv
  obtain ⟨hav, hKN, -⟩ := hv
  have hK := hKN.1
  have hx := B.exec
  have hb := B.bytes
  have hrt := B.returns
  have htA : ∀ w ∈ ALL, w.before args s = true := fun w h => atoms_spec (ws := wsV_valueOf) B.pre w (List.mem_cons_of_mem _ h)
  have hown : s.vm.findClass RV = some m.cls := findClass_of_methodNamed B.named
  have hlocks := B.notSynchronized
  refine pw_nm (fun R Q hR hQ => ?_)
  refine pw_entry (vs := [.int (nI x), .int (nI a)]) hav (Nat.le_of_ble_eq_true rfl) (fun ls hl => ?_)
  have hl : lv_has ls 2 [(0, .int (nI x)), (1, .int (nI a))] := hl
  refine lv_iload_n hx hb dV_valueOf_0 rfl (lv_at hl 0 rfl) ?_
  refine lv_iload_n hx hb dV_valueOf_1 rfl (lv_at hl 1 rfl) ?_
  refine vp_callSi (va_Run.run (va_runS (As := [.int (nI a)]) (rest := [.int (nI x)]) ⟨hx, hb, hml, hown, htA⟩ (c_shiftOf l G cA a ha) (va_cwS 1 htA (gd_S wd220 wd221 wd26 wd222) rfl rfl rfl (by decide +kernel) (by rw [hR]; exact ⟨Nat.le_of_ble_eq_true rfl, Nat.le_of_ble_eq_true rfl⟩)) (pw_S hKN trivial) rfl rfl hl.1 rfl (lv_room (Nat.le_of_ble_eq_true rfl)) dV_valueOf_2 (by rw [hR]; exact ⟨Nat.le_of_ble_eq_true rfl, Nat.le_of_ble_eq_true rfl⟩))) (fun r1 hr1 => ?_)
  subst hr1
  refine lv_ishr hx hb dV_valueOf_5 ?_
  refine lv_iconst (v := nI 3) hx hb dV_valueOf_6 (by decide) ?_
  refine lv_iand hx hb dV_valueOf_7 ?_
  rw [hQ]
  exact W.iret (v := ((nI x) >>> ((nI (2 * (2 - a))) &&& 31)) &&& (nI 3)) hx hb hrt (fun t ht hW => ⟨_, rfl, (i_val x hx0 a ha), ht⟩) (fun q h => by cases h) dV_valueOf_8

set_option maxRecDepth 100000 in
set_option maxHeartbeats 4000000 in
theorem c_givenFor (l : Launch) (G : va_G) (cA : Nat → ClassId) (a : Nat) (f : Nat → Int64) (z : Int64) : Met l yV_givenFor wsV_givenFor ({ frames := 1, cells := 0, slots := 0, locals := 22 }) (PH G cA [.ref a, .long z] (fun H => al (cA 0) a 64 f H)) (vp_Sl (fun r => r = gf f z 64)) 0 0 (fun _ => False) := by
  refine Met.ofW (cc := cV_givenFor) (maxL := 6) (ret := (some .long)) (by decide) rfl ?_
  intro p e s m args below meth c s₁ B hml hv
  obtain ⟨hav, hKN, hal⟩ := hv
  have hK := hKN.1
  have hx := B.exec
  have hb := B.bytes
  have hrt := B.returns
  have htA : ∀ w ∈ ALL, w.before args s = true := fun w h => atoms_spec (ws := wsV_givenFor) B.pre w (List.mem_cons_of_mem _ h)
  have hown : s.vm.findClass RV = some m.cls := findClass_of_methodNamed B.named
  have hlocks := B.notSynchronized
  refine pw_nm (fun R Q hR hQ => ?_)
  refine pw_entry (vs := [.ref a, .long z]) hav (Nat.le_of_ble_eq_true rfl) (fun ls hl => ?_)
  have hl : lv_has ls 6 [(0, .ref a), (1, .long z)] := hl
  refine lv_lconst (v := 0) hx hb dV_givenFor_0 rfl ?_
  refine lv_lstore_n (lv' := [(3, .long 0), (0, .ref a), (1, .long z)]) hx hb dV_givenFor_1 rfl hl (by decide) rfl (fun ls hl => ?_)
  refine lv_iconst (v := nI 0) hx hb dV_givenFor_2 (by decide) ?_
  refine lv_istore (lv' := [(5, .int (nI 0)), (3, .long 0), (0, .ref a), (1, .long z)]) hx hb dV_givenFor_3 hl (by decide) rfl (fun ls hl => ?_)
  have lp : ∀ (k i : Nat), i + k = 64 → ∀ ls : Array Slot, lv_has ls 6 [(0, .ref a), (1, .long z), (3, .long (gf f z i)), (5, .int (nI i))] → W p l e R s m args below meth c s.heap ([]) 0 0 Q (F0 m 5 ls []) := by
    intro k
    induction k with
    | zero =>
      intro i hik ls hl
      have hi : i = 64 := by omega
      subst hi
      refine lv_iload hx hb dV_givenFor_5 (lv_at hl 3 rfl) ?_
      refine lv_bipush (v := nI 64) hx hb dV_givenFor_7 (by decide) ?_
      refine lv_icmp_ge (tgt := 34) hx hb dV_givenFor_9 (by decide) (fun _ => ?_) (fun c9 => absurd (Int32.le_refl _) c9)
      refine lv_lload_n hx hb dV_givenFor_34 rfl (lv_at hl 2 rfl) ?_
      rw [hQ]
      exact W.lret (v := gf f z 64) hx hb hrt (fun t ht hW => ⟨_, rfl, rfl, ht⟩) (fun q h => by cases h) dV_givenFor_35
    | succ k ih =>
      intro i hik ls hl
      have hi : i < 64 := by omega
      refine lv_iload hx hb dV_givenFor_5 (lv_at hl 3 rfl) ?_
      refine lv_bipush (v := nI 64) hx hb dV_givenFor_7 (by decide) ?_
      refine lv_icmp_ge (tgt := 34) hx hb dV_givenFor_9 (by decide) (fun c9 => absurd c9 (nI_ge hi (by decide))) (fun _ => ?_)
      refine lv_lload_n hx hb dV_givenFor_12 rfl (lv_at hl 1 rfl) ?_
      refine lv_iload hx hb dV_givenFor_13 (lv_at hl 3 rfl) ?_
      refine vp_callSi (va_Run.run (va_runS (As := [.long z, .int (nI i)]) (rest := []) ⟨hx, hb, hml, hown, htA⟩ (c_has l G cA z i hi) (va_cwS 2 htA (gd_S wd240 wd241 wd26 wd242) rfl rfl rfl (by decide +kernel) (by rw [hR]; exact ⟨Nat.le_of_ble_eq_true rfl, Nat.le_of_ble_eq_true rfl⟩)) (pw_S hKN trivial) rfl rfl hl.1 rfl (lv_room (Nat.le_of_ble_eq_true rfl)) dV_givenFor_15 (by rw [hR]; exact ⟨Nat.le_of_ble_eq_true rfl, Nat.le_of_ble_eq_true rfl⟩))) (fun r1 hr1 => ?_)
      subst hr1
      refine lv_if_eq (tgt := 28) hx hb dV_givenFor_18 (by decide) (fun c1 => ?_) (fun c1 => ?_)
      · have hq := bI_eq.mp c1
        have hg : gf f z i = gf f z (i + 1) := by show _ = (if hbit z i = true then _ else _); rw [if_neg (by rw [hq]; decide)]
        rw [hg] at hl
        refine lv_iinc (v := nI (i + 1)) (lv' := [(5, .int (nI (i + 1))), (0, .ref a), (1, .long z), (3, .long (gf f z (i + 1)))]) hx hb dV_givenFor_28 hl (k := 3) rfl (nI_1 i) (by decide) rfl (fun ls hl => ?_)
        refine lv_goto (tgt := 5) hx hb dV_givenFor_31 (by decide) ?_
        exact ih (i + 1) (by omega) ls (lv_sub hl [1, 2, 3, 0] rfl)
      · have hq := bI_ne.mp c1
        refine lv_lload_n hx hb dV_givenFor_21 rfl (lv_at hl 2 rfl) ?_
        refine lv_aload_n hx hb dV_givenFor_22 rfl (lv_at hl 0 rfl) ?_
        refine lv_iload hx hb dV_givenFor_23 (lv_at hl 3 rfl) ?_
        refine pw_lald hx hb hK hal 0 rfl (by omega) (by decide) dV_givenFor_25 ?_
        refine lv_lor hx hb dV_givenFor_26 ?_
        refine pw_tl (y := gf f z (i + 1)) (by show _ = (if hbit z i = true then _ else _); rw [if_pos hq]) ?_
        refine lv_lstore_n (lv' := [(3, .long (gf f z (i + 1))), (0, .ref a), (1, .long z), (5, .int (nI i))]) hx hb dV_givenFor_27 rfl hl (by decide) rfl (fun ls hl => ?_)
        refine lv_iinc (v := nI (i + 1)) (lv' := [(5, .int (nI (i + 1))), (3, .long (gf f z (i + 1))), (0, .ref a), (1, .long z)]) hx hb dV_givenFor_28 hl (k := 3) rfl (nI_1 i) (by decide) rfl (fun ls hl => ?_)
        refine lv_goto (tgt := 5) hx hb dV_givenFor_31 (by decide) ?_
        exact ih (i + 1) (by omega) ls (lv_sub hl [2, 3, 1, 0] rfl)
  exact lp (64) 0 (by omega) ls (lv_sub hl [2, 3, 1, 0] rfl)

set_option maxRecDepth 100000 in
set_option maxHeartbeats 4000000 in
theorem c_leastDifference (l : Launch) (G : va_G) (cA : Nat → ClassId) (a b : Nat) (f g : Nat → Int64) : Met l yV_leastDifference wsV_leastDifference ({ frames := 0, cells := 0, slots := 0, locals := 0 }) (PH G cA [.ref a, .ref b] (fun H => (al (cA 0) a 64 f H ∧ al (cA 0) b 64 g H))) (vp_Si (fun r => (∃ k, k < 64 ∧ apR f g k ∧ r = nI k) ∨ (apR f g 64 ∧ r = -1))) 0 0 (fun _ => False) := by
  refine Met.ofW (cc := cV_leastDifference) (maxL := 3) (ret := (some .int)) (by decide) rfl ?_
  intro p e s m args below meth c s₁ B hml hv
  obtain ⟨hav, hKN, hal, hbl⟩ := hv
  have hK := hKN.1
  have hx := B.exec
  have hb := B.bytes
  have hrt := B.returns
  have htA : ∀ w ∈ ALL, w.before args s = true := fun w h => atoms_spec (ws := wsV_leastDifference) B.pre w (List.mem_cons_of_mem _ h)
  have hown : s.vm.findClass RV = some m.cls := findClass_of_methodNamed B.named
  have hlocks := B.notSynchronized
  refine pw_nm (fun R Q hR hQ => ?_)
  refine pw_entry (vs := [.ref a, .ref b]) hav (Nat.le_of_ble_eq_true rfl) (fun ls hl => ?_)
  have hl : lv_has ls 3 [(0, .ref a), (1, .ref b)] := hl
  refine lv_iconst (v := nI 0) hx hb dV_leastDifference_0 (by decide) ?_
  refine lv_istore_n (lv' := [(2, .int (nI 0)), (0, .ref a), (1, .ref b)]) hx hb dV_leastDifference_1 rfl hl (by decide) rfl (fun ls hl => ?_)
  have lp : ∀ (k i : Nat), i + k = 64 → (∀ j, j < i → f j = g j) → ∀ ls : Array Slot, lv_has ls 3 [(0, .ref a), (1, .ref b), (2, .int (nI i))] → W p l e R s m args below meth c s.heap ([]) 0 0 Q (F0 m 2 ls []) := by
    intro k
    induction k with
    | zero =>
      intro i hik hinv ls hl
      have hi : i = 64 := by omega
      subst hi
      refine lv_iload_n hx hb dV_leastDifference_2 rfl (lv_at hl 2 rfl) ?_
      refine lv_bipush (v := nI 64) hx hb dV_leastDifference_3 (by decide) ?_
      refine lv_icmp_ge (tgt := 26) hx hb dV_leastDifference_5 (by decide) (fun _ => ?_) (fun c9 => absurd (Int32.le_refl _) c9)
      refine lv_iconst (v := (-1)) hx hb dV_leastDifference_26 (by decide) ?_
      rw [hQ]
      exact W.iret (v := (-1)) hx hb hrt (fun t ht hW => ⟨_, rfl, (Or.inr ⟨⟨Nat.le_refl _, hinv, fun h => absurd h (Nat.lt_irrefl _)⟩, rfl⟩), ht⟩) (fun q h => by cases h) dV_leastDifference_27
    | succ k ih =>
      intro i hik hinv ls hl
      have hi : i < 64 := by omega
      refine lv_iload_n hx hb dV_leastDifference_2 rfl (lv_at hl 2 rfl) ?_
      refine lv_bipush (v := nI 64) hx hb dV_leastDifference_3 (by decide) ?_
      refine lv_icmp_ge (tgt := 26) hx hb dV_leastDifference_5 (by decide) (fun c9 => absurd c9 (nI_ge hi (by decide))) (fun _ => ?_)
      refine lv_aload_n hx hb dV_leastDifference_8 rfl (lv_at hl 0 rfl) ?_
      refine lv_iload_n hx hb dV_leastDifference_9 rfl (lv_at hl 2 rfl) ?_
      refine pw_lald hx hb hK hal 0 rfl (by omega) (by decide) dV_leastDifference_10 ?_
      refine lv_aload_n hx hb dV_leastDifference_11 rfl (lv_at hl 1 rfl) ?_
      refine lv_iload_n hx hb dV_leastDifference_12 rfl (lv_at hl 2 rfl) ?_
      refine pw_lald hx hb hK hbl 0 rfl (by omega) (by decide) dV_leastDifference_13 ?_
      refine W.lcmp hx hb dV_leastDifference_14 ?_
      refine lv_if_eq (tgt := 20) hx hb dV_leastDifference_15 (by decide) (fun c1 => ?_) (fun c1 => ?_)
      · have hq := (cmp0 _ _).mp c1
        refine lv_iinc (v := nI (i + 1)) (lv' := [(2, .int (nI (i + 1))), (0, .ref a), (1, .ref b)]) hx hb dV_leastDifference_20 hl (k := 2) rfl (nI_1 i) (by decide) rfl (fun ls hl => ?_)
        refine lv_goto (tgt := 2) hx hb dV_leastDifference_23 (by decide) ?_
        exact ih (i + 1) (by omega) (lt_s hinv hq) ls (lv_sub hl [1, 2, 0] rfl)
      · have hq : ¬ f i = g i := fun q => c1 ((cmp0 _ _).mpr q)
        refine lv_iload_n hx hb dV_leastDifference_18 rfl (lv_at hl 2 rfl) ?_
        rw [hQ]
        exact W.iret (v := nI i) hx hb hrt (fun t ht hW => ⟨_, rfl, (Or.inl ⟨i, hi, ⟨by omega, hinv, fun _ => hq⟩, rfl⟩), ht⟩) (fun q h => by cases h) dV_leastDifference_19
  exact lp (64) 0 (by omega) lt_0 ls (lv_sub hl [1, 2, 0] rfl)

set_option maxRecDepth 100000 in
set_option maxHeartbeats 4000000 in
theorem c_isMade (l : Launch) (G : va_G) (cA : Nat → ClassId) (x n : Nat) (fs : List Value) (v : Int32) (hfs : fs[2]? = some (.int (nI n))) (hn : n < 2147483648) : Met l yV_isMade wsV_isMade ({ frames := 0, cells := 0, slots := 0, locals := 0 }) (PH G cA [.ref x, .int v] (fun H => ob G 3 x fs H)) (vp_Si (fun r => r = bI (inb n v))) 0 0 (fun _ => False) := by
  refine Met.ofW (cc := cV_isMade) (maxL := 2) (ret := (some .boolean)) (by decide) rfl ?_
  intro p e s m args below meth c s₁ B hml hv
  obtain ⟨hav, hKN, hob⟩ := hv
  have hK := hKN.1
  have hx := B.exec
  have hb := B.bytes
  have hrt := B.returns
  have htA : ∀ w ∈ ALL, w.before args s = true := fun w h => atoms_spec (ws := wsV_isMade) B.pre w (List.mem_cons_of_mem _ h)
  have hown : s.vm.findClass RV = some m.cls := findClass_of_methodNamed B.named
  have hlocks := B.notSynchronized
  refine pw_nm (fun R Q hR hQ => ?_)
  refine pw_entry (vs := [.ref x, .int v]) hav (Nat.le_of_ble_eq_true rfl) (fun ls hl => ?_)
  have hl : lv_has ls 2 [(0, .ref x), (1, .int v)] := hl
  refine lv_iload_n hx hb dV_isMade_0 rfl (lv_at hl 1 rfl) ?_
  refine lv_if_lt (tgt := 16) hx hb dV_isMade_1 (by decide) (fun c1 => ?_) (fun c1 => ?_)
  · refine lv_iconst (v := nI 0) hx hb dV_isMade_16 (by decide) ?_
    rw [hQ]
    exact W.zret (v := nI 0) (ty := .boolean) hx hb hrt (by first | rfl | exact bI_nar _) (fun t ht hW => ⟨_, rfl, (by rw [inb_neg c1]; rfl), ht⟩) (fun q h => by cases h) dV_isMade_17
  · refine lv_iload_n hx hb dV_isMade_4 rfl (lv_at hl 1 rfl) ?_
    refine lv_aload_n hx hb dV_isMade_5 rfl (lv_at hl 0 rfl) ?_
    refine va_get (D := G) (ci := 3) (v := .int (nI n)) (C := RV) (T := TV) (N := 4) hx hb htA inV hown hK (ob_P hob) 0 rfl rfl 2 (by decide) (htA _ wd65) (fun _ h9 => h9) hfs dV_isMade_6 ?_
    refine lv_icmp_ge (tgt := 16) hx hb dV_isMade_9 (by decide) (fun c2 => ?_) (fun c2 => ?_)
    · refine lv_iconst (v := nI 0) hx hb dV_isMade_16 (by decide) ?_
      rw [hQ]
      exact W.zret (v := nI 0) (ty := .boolean) hx hb hrt (by first | rfl | exact bI_nar _) (fun t ht hW => ⟨_, rfl, (by rw [inb_big hn c2]; rfl), ht⟩) (fun q h => by cases h) dV_isMade_17
    · refine lv_iconst (v := nI 1) hx hb dV_isMade_12 (by decide) ?_
      refine lv_goto (tgt := 17) hx hb dV_isMade_13 (by decide) ?_
      rw [hQ]
      exact W.zret (v := nI 1) (ty := .boolean) hx hb hrt (by first | rfl | exact bI_nar _) (fun t ht hW => ⟨_, rfl, (by rw [inb_ok hn c1 c2]; rfl), ht⟩) (fun q h => by cases h) dV_isMade_17
end
section
set_option maxRecDepth 100000 in
set_option maxHeartbeats 4000000 in
theorem m_in (l : Launch) (G : va_G) (cA : Nat → ClassId) (v lo hi : Int32) : Met l yM_in wsM_in ({ frames := 0, cells := 0, slots := 0, locals := 0 }) (PH G cA [.int v, .int lo, .int hi] (fun H => True)) (vp_Si (fun r => r = bI (decide (lo ≤ v) && decide (v ≤ hi)))) 0 0 (fun _ => False) := by
  refine Met.ofW (cc := cM_in) (maxL := 3) (ret := (some .boolean)) (by decide) rfl ?_
  intro p e s m args below meth c s₁ B hml hv
  obtain ⟨hav, hKN, -⟩ := hv
  have hK := hKN.1
  have hx := B.exec
  have hb := B.bytes
  have hrt := B.returns
  have htA : ∀ w ∈ ALL, w.before args s = true := fun w h => atoms_spec (ws := wsM_in) B.pre w (List.mem_cons_of_mem _ h)
  have hown : s.vm.findClass RM = some m.cls := findClass_of_methodNamed B.named
  have hlocks := B.notSynchronized
  refine pw_nm (fun R Q hR hQ => ?_)
  refine pw_entry (vs := [.int v, .int lo, .int hi]) hav (Nat.le_of_ble_eq_true rfl) (fun ls hl => ?_)
  have hl : lv_has ls 3 [(0, .int v), (1, .int lo), (2, .int hi)] := hl
  refine lv_iload_n hx hb dM_in_0 rfl (lv_at hl 0 rfl) ?_
  refine lv_iload_n hx hb dM_in_1 rfl (lv_at hl 1 rfl) ?_
  refine lv_icmp_lt (tgt := 14) hx hb dM_in_2 (by decide) (fun c1 => ?_) (fun c1 => ?_)
  · refine lv_iconst (v := nI 0) hx hb dM_in_14 (by decide) ?_
    rw [hQ]
    exact W.zret (v := nI 0) (ty := .boolean) hx hb hrt (by first | rfl | exact bI_nar _) (fun t ht hW => ⟨_, rfl, (by rw [decide_eq_false (Int32.not_le.mpr c1)]; rfl), ht⟩) (fun q h => by cases h) dM_in_15
  · refine lv_iload_n hx hb dM_in_5 rfl (lv_at hl 0 rfl) ?_
    refine lv_iload_n hx hb dM_in_6 rfl (lv_at hl 2 rfl) ?_
    refine lv_icmp_gt (tgt := 14) hx hb dM_in_7 (by decide) (fun c2 => ?_) (fun c2 => ?_)
    · refine lv_iconst (v := nI 0) hx hb dM_in_14 (by decide) ?_
      rw [hQ]
      exact W.zret (v := nI 0) (ty := .boolean) hx hb hrt (by first | rfl | exact bI_nar _) (fun t ht hW => ⟨_, rfl, (by rw [decide_eq_false (Int32.not_le.mpr c2), Bool.and_false]; rfl), ht⟩) (fun q h => by cases h) dM_in_15
    · refine lv_iconst (v := nI 1) hx hb dM_in_10 (by decide) ?_
      refine lv_goto (tgt := 15) hx hb dM_in_11 (by decide) ?_
      rw [hQ]
      exact W.zret (v := nI 1) (ty := .boolean) hx hb hrt (by first | rfl | exact bI_nar _) (fun t ht hW => ⟨_, rfl, (by rw [decide_eq_true (Int32.not_lt.mp c1), decide_eq_true (Int32.not_lt.mp c2)]; rfl), ht⟩) (fun q h => by cases h) dM_in_15

set_option maxRecDepth 100000 in
set_option maxHeartbeats 4000000 in
theorem m_made (l : Launch) (G : va_G) (cA : Nat → ClassId) (mo n : Nat) (fs : List Value) (v : Int32) (hf3 : fs[3]? = some (.int (nI n))) (hn : n < 1073741824) : Met l yM_made wsM_made ({ frames := 1, cells := 0, slots := 0, locals := 22 }) (PH G cA [.ref mo, .int v] (fun H => ob G 4 mo fs H)) (vp_Si (fun r => r = bI (inb n v))) 0 0 (fun _ => False) := by
  refine Met.ofW (cc := cM_made) (maxL := 2) (ret := (some .boolean)) (by decide) rfl ?_
  intro p e s m args below meth c s₁ B hml hv
  obtain ⟨hav, hKN, hob⟩ := hv
  have hK := hKN.1
  have hx := B.exec
  have hb := B.bytes
  have hrt := B.returns
  have htA : ∀ w ∈ ALL, w.before args s = true := fun w h => atoms_spec (ws := wsM_made) B.pre w (List.mem_cons_of_mem _ h)
  have hown : s.vm.findClass RM = some m.cls := findClass_of_methodNamed B.named
  have hlocks := B.notSynchronized
  refine pw_nm (fun R Q hR hQ => ?_)
  refine pw_entry (vs := [.ref mo, .int v]) hav (Nat.le_of_ble_eq_true rfl) (fun ls hl => ?_)
  have hl : lv_has ls 2 [(0, .ref mo), (1, .int v)] := hl
  refine lv_iload_n hx hb dM_made_0 rfl (lv_at hl 1 rfl) ?_
  refine lv_iconst (v := nI 0) hx hb dM_made_1 (by decide) ?_
  refine lv_aload_n hx hb dM_made_2 rfl (lv_at hl 0 rfl) ?_
  refine va_get (D := G) (ci := 4) (v := .int (nI n)) (C := RM) (T := TM) (N := 8) hx hb htA inM hown hK (ob_P hob) 0 rfl rfl 3 (by decide) (htA _ wd438) (fun _ h9 => h9) hf3 dM_made_3 ?_
  refine lv_iconst (v := nI 1) hx hb dM_made_6 (by decide) ?_
  refine lv_isub hx hb dM_made_7 ?_
  refine vp_callSi (va_Run.run (va_runS (As := [.int v, .int (nI 0), .int ((nI n) - (nI 1))]) (rest := []) ⟨hx, hb, hml, hown, htA⟩ (m_in l G cA v (nI 0) (nI n - nI 1)) (va_cwS 3 htA (gd_S wd473 wd474 wd28 wd475) rfl rfl rfl (by decide +kernel) (by rw [hR]; exact ⟨Nat.le_of_ble_eq_true rfl, Nat.le_of_ble_eq_true rfl⟩)) (pw_S hKN trivial) rfl rfl hl.1 rfl (lv_room (Nat.le_of_ble_eq_true rfl)) dM_made_8 (by rw [hR]; exact ⟨Nat.le_of_ble_eq_true rfl, Nat.le_of_ble_eq_true rfl⟩))) (fun r1 hr1 => ?_)
  subst hr1
  refine pw_ti (y := bI (inb n v)) (by rw [in_made v n hn]) ?_
  rw [hQ]
  exact W.zret (v := bI (inb n v)) (ty := .boolean) hx hb hrt (by first | rfl | exact bI_nar _) (fun t ht hW => ⟨_, rfl, rfl, ht⟩) (fun q h => by cases h) dM_made_11

set_option maxRecDepth 100000 in
set_option maxHeartbeats 4000000 in
theorem m_value (l : Launch) (G : va_G) (cA : Nat → ClassId) (x : Nat) (hx0 : x < 64) (a : Nat) (ha : a < 3) : Met l yM_value wsM_value ({ frames := 0, cells := 0, slots := 0, locals := 0 }) (PH G cA [.int (nI x), .int (nI a)] (fun H => True)) (vp_Si (fun r => r = nI (vl x a))) 0 0 (fun _ => False) := by
  refine Met.ofW (cc := cM_value) (maxL := 2) (ret := (some .int)) (by decide) rfl ?_
  intro p e s m args below meth c s₁ B hml hv
  obtain ⟨hav, hKN, -⟩ := hv
  have hK := hKN.1
  have hx := B.exec
  have hb := B.bytes
  have hrt := B.returns
  have htA : ∀ w ∈ ALL, w.before args s = true := fun w h => atoms_spec (ws := wsM_value) B.pre w (List.mem_cons_of_mem _ h)
  have hown : s.vm.findClass RM = some m.cls := findClass_of_methodNamed B.named
  have hlocks := B.notSynchronized
  refine pw_nm (fun R Q hR hQ => ?_)
  refine pw_entry (vs := [.int (nI x), .int (nI a)]) hav (Nat.le_of_ble_eq_true rfl) (fun ls hl => ?_)
  have hl : lv_has ls 2 [(0, .int (nI x)), (1, .int (nI a))] := hl
  refine lv_iload_n hx hb dM_value_0 rfl (lv_at hl 0 rfl) ?_
  refine lv_iconst (v := nI 4) hx hb dM_value_1 (by decide) ?_
  refine lv_iconst (v := nI 2) hx hb dM_value_2 (by decide) ?_
  refine lv_iload_n hx hb dM_value_3 rfl (lv_at hl 1 rfl) ?_
  refine lv_imul hx hb dM_value_4 ?_
  refine lv_isub hx hb dM_value_5 ?_
  refine lv_ishr hx hb dM_value_6 ?_
  refine lv_iconst (v := nI 3) hx hb dM_value_7 (by decide) ?_
  refine lv_iand hx hb dM_value_8 ?_
  rw [hQ]
  exact W.iret (v := ((nI x) >>> (((nI 4) - ((nI 2) * (nI a))) &&& 31)) &&& (nI 3)) hx hb hrt (fun t ht hW => ⟨_, rfl, (i_valM x hx0 a ha), ht⟩) (fun q h => by cases h) dM_value_9

set_option maxRecDepth 100000 in
set_option maxHeartbeats 4000000 in
theorem m_with (l : Launch) (G : va_G) (cA : Nat → ClassId) (x : Nat) (hx0 : x < 64) (a : Nat) (ha : a < 3) (b : Nat) (hb0 : b < 4) : Met l yM_with wsM_with ({ frames := 1, cells := 0, slots := 0, locals := 21 }) (PH G cA [.int (nI x), .int (nI a), .int (nI b)] (fun H => True)) (vp_Si (fun r => r = nI (setv x a b))) 0 0 (fun _ => False) := by
  refine Met.ofW (cc := cM_with) (maxL := 3) (ret := (some .int)) (by decide) rfl ?_
  intro p e s m args below meth c s₁ B hml hv
  obtain ⟨hav, hKN, -⟩ := hv
  have hK := hKN.1
  have hx := B.exec
  have hb := B.bytes
  have hrt := B.returns
  have htA : ∀ w ∈ ALL, w.before args s = true := fun w h => atoms_spec (ws := wsM_with) B.pre w (List.mem_cons_of_mem _ h)
  have hown : s.vm.findClass RM = some m.cls := findClass_of_methodNamed B.named
  have hlocks := B.notSynchronized
  refine pw_nm (fun R Q hR hQ => ?_)
  refine pw_entry (vs := [.int (nI x), .int (nI a), .int (nI b)]) hav (Nat.le_of_ble_eq_true rfl) (fun ls hl => ?_)
  have hl : lv_has ls 3 [(0, .int (nI x)), (1, .int (nI a)), (2, .int (nI b))] := hl
  refine lv_iload_n hx hb dM_with_0 rfl (lv_at hl 0 rfl) ?_
  refine lv_iload_n hx hb dM_with_1 rfl (lv_at hl 2 rfl) ?_
  refine lv_iload_n hx hb dM_with_2 rfl (lv_at hl 0 rfl) ?_
  refine lv_iload_n hx hb dM_with_3 rfl (lv_at hl 1 rfl) ?_
  refine vp_callSi (va_Run.run (va_runS (As := [.int (nI x), .int (nI a)]) (rest := [.int (nI b), .int (nI x)]) ⟨hx, hb, hml, hown, htA⟩ (m_value l G cA x hx0 a ha) (va_cwS 2 htA (gd_S wd488 wd489 wd28 wd490) rfl rfl rfl (by decide +kernel) (by rw [hR]; exact ⟨Nat.le_of_ble_eq_true rfl, Nat.le_of_ble_eq_true rfl⟩)) (pw_S hKN trivial) rfl rfl hl.1 rfl (lv_room (Nat.le_of_ble_eq_true rfl)) dM_with_4 (by rw [hR]; exact ⟨Nat.le_of_ble_eq_true rfl, Nat.le_of_ble_eq_true rfl⟩))) (fun r1 hr1 => ?_)
  subst hr1
  refine lv_isub hx hb dM_with_7 ?_
  refine lv_iconst (v := nI 4) hx hb dM_with_8 (by decide) ?_
  refine lv_iconst (v := nI 2) hx hb dM_with_9 (by decide) ?_
  refine lv_iload_n hx hb dM_with_10 rfl (lv_at hl 1 rfl) ?_
  refine lv_imul hx hb dM_with_11 ?_
  refine lv_isub hx hb dM_with_12 ?_
  refine lv_ishl hx hb dM_with_13 ?_
  refine lv_iadd hx hb dM_with_14 ?_
  rw [hQ]
  exact W.iret (v := (nI x) + (((nI b) - (nI (vl x a))) <<< (((nI 4) - ((nI 2) * (nI a))) &&& 31))) hx hb hrt (fun t ht hW => ⟨_, rfl, (i_setM x hx0 a ha b hb0), ht⟩) (fun q h => by cases h) dM_with_15

set_option maxRecDepth 100000 in
set_option maxHeartbeats 4000000 in
theorem m_all (l : Launch) (G : va_G) (cA : Nat → ClassId) (mo ao : Nat) (fs : List Value) (fo : Nat → Int64) (a : Nat) (z : Int64) (hf1 : fs[1]? = some (.ref ao)) (ha : a < 50) : Met l yM_all wsM_all ({ frames := 0, cells := 0, slots := 0, locals := 0 }) (PH G cA [.ref mo, .int (nI a), .long z] (fun H => (ob G 4 mo fs H ∧ al (cA 0) ao 3200 fo H))) (vp_Sl (fun r => r = gf (fun k => fo (64 * a + k)) z 64)) 0 0 (fun _ => False) := by
  refine Met.ofW (cc := cM_all) (maxL := 7) (ret := (some .long)) (by decide) rfl ?_
  intro p e s m args below meth c s₁ B hml hv
  obtain ⟨hav, hKN, hob, hal⟩ := hv
  have hK := hKN.1
  have hx := B.exec
  have hb := B.bytes
  have hrt := B.returns
  have htA : ∀ w ∈ ALL, w.before args s = true := fun w h => atoms_spec (ws := wsM_all) B.pre w (List.mem_cons_of_mem _ h)
  have hown : s.vm.findClass RM = some m.cls := findClass_of_methodNamed B.named
  have hlocks := B.notSynchronized
  refine pw_nm (fun R Q hR hQ => ?_)
  refine pw_entry (vs := [.ref mo, .int (nI a), .long z]) hav (Nat.le_of_ble_eq_true rfl) (fun ls hl => ?_)
  have hl : lv_has ls 7 [(0, .ref mo), (1, .int (nI a)), (2, .long z)] := hl
  refine lv_lconst (v := 0) hx hb dM_all_0 rfl ?_
  refine lv_lstore (lv' := [(4, .long 0), (0, .ref mo), (1, .int (nI a)), (2, .long z)]) hx hb dM_all_1 hl (by decide) rfl (fun ls hl => ?_)
  refine lv_iconst (v := nI 0) hx hb dM_all_3 (by decide) ?_
  refine lv_istore (lv' := [(6, .int (nI 0)), (4, .long 0), (0, .ref mo), (1, .int (nI a)), (2, .long z)]) hx hb dM_all_4 hl (by decide) rfl (fun ls hl => ?_)
  have lp : ∀ (k i : Nat), i + k = 64 → ∀ ls : Array Slot, lv_has ls 7 [(0, .ref mo), (1, .int (nI a)), (2, .long z), (4, .long (gf (fun k => fo (64 * a + k)) z i)), (6, .int (nI i))] → W p l e R s m args below meth c s.heap ([]) 0 0 Q (F0 m 6 ls []) := by
    intro k
    induction k with
    | zero =>
      intro i hik ls hl
      have hi : i = 64 := by omega
      subst hi
      refine lv_iload hx hb dM_all_6 (lv_at hl 4 rfl) ?_
      refine lv_bipush (v := nI 64) hx hb dM_all_8 (by decide) ?_
      refine lv_icmp_ge (tgt := 47) hx hb dM_all_10 (by decide) (fun _ => ?_) (fun c9 => absurd (Int32.le_refl _) c9)
      refine lv_lload hx hb dM_all_47 (lv_at hl 3 rfl) ?_
      rw [hQ]
      exact W.lret (v := gf (fun k => fo (64 * a + k)) z 64) hx hb hrt (fun t ht hW => ⟨_, rfl, rfl, ht⟩) (fun q h => by cases h) dM_all_49
    | succ k ih =>
      intro i hik ls hl
      have hi : i < 64 := by omega
      refine lv_iload hx hb dM_all_6 (lv_at hl 4 rfl) ?_
      refine lv_bipush (v := nI 64) hx hb dM_all_8 (by decide) ?_
      refine lv_icmp_ge (tgt := 47) hx hb dM_all_10 (by decide) (fun c9 => absurd c9 (nI_ge hi (by decide))) (fun _ => ?_)
      refine lv_lload_n hx hb dM_all_13 rfl (lv_at hl 2 rfl) ?_
      refine lv_iload hx hb dM_all_14 (lv_at hl 4 rfl) ?_
      refine lv_lshr hx hb dM_all_16 rfl ?_
      refine lv_lconst (v := 1) hx hb dM_all_17 rfl ?_
      refine lv_land hx hb dM_all_18 ?_
      refine lv_lconst (v := 0) hx hb dM_all_19 rfl ?_
      refine W.lcmp hx hb dM_all_20 ?_
      refine lv_if_eq (tgt := 41) hx hb dM_all_21 (by decide) (fun c1 => ?_) (fun c1 => ?_)
      · have hq : hbit z i = false := (hb_sshr z hi).mp ((cmp0 _ _).mp c1)
        have hg : gf (fun k => fo (64 * a + k)) z i = gf (fun k => fo (64 * a + k)) z (i + 1) := by show _ = (if hbit z i = true then _ else _); rw [if_neg (by rw [hq]; decide)]
        rw [hg] at hl
        refine lv_iinc (v := nI (i + 1)) (lv' := [(6, .int (nI (i + 1))), (0, .ref mo), (1, .int (nI a)), (2, .long z), (4, .long (gf (fun k => fo (64 * a + k)) z (i + 1)))]) hx hb dM_all_41 hl (k := 4) rfl (nI_1 i) (by decide) rfl (fun ls hl => ?_)
        refine lv_goto (tgt := 6) hx hb dM_all_44 (by decide) ?_
        exact ih (i + 1) (by omega) ls (lv_sub hl [1, 2, 3, 4, 0] rfl)
      · have hq : hbit z i = true := ts_nf (fun hz => c1 ((cmp0 _ _).mpr ((hb_sshr z hi).mpr hz)))
        refine lv_lload hx hb dM_all_24 (lv_at hl 3 rfl) ?_
        refine lv_aload_n hx hb dM_all_26 rfl (lv_at hl 0 rfl) ?_
        refine va_get (D := G) (ci := 4) (v := .ref ao) (C := RM) (T := TM) (N := 8) hx hb htA inM hown hK (ob_P hob) 0 rfl rfl 1 (by decide) (htA _ wd436) (fun _ h9 => h9) hf1 dM_all_27 ?_
        refine lv_bipush (v := nI 64) hx hb dM_all_30 (by decide) ?_
        refine lv_iload_n hx hb dM_all_32 rfl (lv_at hl 1 rfl) ?_
        refine lv_imul hx hb dM_all_33 ?_
        refine pw_ti (y := nI (64 * a)) (pk_mul _ _) ?_
        refine lv_iload hx hb dM_all_34 (lv_at hl 4 rfl) ?_
        refine lv_iadd hx hb dM_all_36 ?_
        refine pw_ti (y := nI ((64 * a) + i)) (nI_add _ _) ?_
        refine pw_lald hx hb hK hal 0 rfl (by omega) (by decide) dM_all_37 ?_
        refine lv_lor hx hb dM_all_38 ?_
        refine pw_tl (y := gf (fun k => fo (64 * a + k)) z (i + 1)) (by show _ = (if hbit z i = true then _ else _); rw [if_pos hq]) ?_
        refine lv_lstore (lv' := [(4, .long (gf (fun k => fo (64 * a + k)) z (i + 1))), (0, .ref mo), (1, .int (nI a)), (2, .long z), (6, .int (nI i))]) hx hb dM_all_39 hl (by decide) rfl (fun ls hl => ?_)
        refine lv_iinc (v := nI (i + 1)) (lv' := [(6, .int (nI (i + 1))), (4, .long (gf (fun k => fo (64 * a + k)) z (i + 1))), (0, .ref mo), (1, .int (nI a)), (2, .long z)]) hx hb dM_all_41 hl (k := 4) rfl (nI_1 i) (by decide) rfl (fun ls hl => ?_)
        refine lv_goto (tgt := 6) hx hb dM_all_44 (by decide) ?_
        exact ih (i + 1) (by omega) ls (lv_sub hl [2, 3, 4, 1, 0] rfl)
  exact lp (64) 0 (by omega) ls (lv_sub hl [2, 3, 4, 1, 0] rfl)

set_option maxRecDepth 100000 in
set_option maxHeartbeats 4000000 in
theorem m_star (l : Launch) (G : va_G) (cA : Nat → ClassId) (mo ao : Nat) (fs : List Value) (fo : Nat → Int64) (a x : Nat) (hf1 : fs[1]? = some (.ref ao)) (ha : a < 50) : Met l yM_star wsM_star ({ frames := 1, cells := 0, slots := 0, locals := 26 }) (PH G cA [.ref mo, .int (nI a), .int (nI x)] (fun H => (ob G 4 mo fs H ∧ al (cA 0) ao 3200 fo H))) (vp_Sl (fun r => r = st (fun k => fo (64 * a + k)) x 64)) 0 0 (fun _ => False) := by
  refine Met.ofW (cc := cM_star) (maxL := 6) (ret := (some .long)) (by decide) rfl ?_
  intro p e s m args below meth c s₁ B hml hv
  obtain ⟨hav, hKN, hob, hal⟩ := hv
  have hK := hKN.1
  have hx := B.exec
  have hb := B.bytes
  have hrt := B.returns
  have htA : ∀ w ∈ ALL, w.before args s = true := fun w h => atoms_spec (ws := wsM_star) B.pre w (List.mem_cons_of_mem _ h)
  have hown : s.vm.findClass RM = some m.cls := findClass_of_methodNamed B.named
  have hlocks := B.notSynchronized
  refine pw_nm (fun R Q hR hQ => ?_)
  refine pw_entry (vs := [.ref mo, .int (nI a), .int (nI x)]) hav (Nat.le_of_ble_eq_true rfl) (fun ls hl => ?_)
  have hl : lv_has ls 6 [(0, .ref mo), (1, .int (nI a)), (2, .int (nI x))] := hl
  refine lv_lconst (v := 1) hx hb dM_star_0 rfl ?_
  refine lv_iload_n hx hb dM_star_1 rfl (lv_at hl 2 rfl) ?_
  refine lv_lshl hx hb dM_star_2 rfl ?_
  refine pw_tl (y := st (fun k => fo (64 * a + k)) x 0) rfl ?_
  refine lv_lstore_n (lv' := [(3, .long (st (fun k => fo (64 * a + k)) x 0)), (0, .ref mo), (1, .int (nI a)), (2, .int (nI x))]) hx hb dM_star_3 rfl hl (by decide) rfl (fun ls hl => ?_)
  refine lv_iconst (v := nI 0) hx hb dM_star_4 (by decide) ?_
  refine lv_istore (lv' := [(5, .int (nI 0)), (3, .long (st (fun k => fo (64 * a + k)) x 0)), (0, .ref mo), (1, .int (nI a)), (2, .int (nI x))]) hx hb dM_star_5 hl (by decide) rfl (fun ls hl => ?_)
  have lp : ∀ (k i : Nat), i + k = 64 → ∀ ls : Array Slot, lv_has ls 6 [(0, .ref mo), (1, .int (nI a)), (3, .long (st (fun k => fo (64 * a + k)) x i)), (5, .int (nI i))] → W p l e R s m args below meth c s.heap ([]) 0 0 Q (F0 m 7 ls []) := by
    intro k
    induction k with
    | zero =>
      intro i hik ls hl
      have hi : i = 64 := by omega
      subst hi
      refine lv_iload hx hb dM_star_7 (lv_at hl 3 rfl) ?_
      refine lv_bipush (v := nI 64) hx hb dM_star_9 (by decide) ?_
      refine lv_icmp_ge (tgt := 29) hx hb dM_star_11 (by decide) (fun _ => ?_) (fun c9 => absurd (Int32.le_refl _) c9)
      refine lv_lload_n hx hb dM_star_29 rfl (lv_at hl 2 rfl) ?_
      rw [hQ]
      exact W.lret (v := st (fun k => fo (64 * a + k)) x 64) hx hb hrt (fun t ht hW => ⟨_, rfl, rfl, ht⟩) (fun q h => by cases h) dM_star_30
    | succ k ih =>
      intro i hik ls hl
      have hi : i < 64 := by omega
      refine lv_iload hx hb dM_star_7 (lv_at hl 3 rfl) ?_
      refine lv_bipush (v := nI 64) hx hb dM_star_9 (by decide) ?_
      refine lv_icmp_ge (tgt := 29) hx hb dM_star_11 (by decide) (fun c9 => absurd c9 (nI_ge hi (by decide))) (fun _ => ?_)
      refine lv_lload_n hx hb dM_star_14 rfl (lv_at hl 2 rfl) ?_
      refine lv_aload_n hx hb dM_star_15 rfl (lv_at hl 0 rfl) ?_
      refine lv_iload_n hx hb dM_star_16 rfl (lv_at hl 1 rfl) ?_
      refine lv_lload_n hx hb dM_star_17 rfl (lv_at hl 2 rfl) ?_
      refine vp_callSl (va_Run.run (va_runV (As := [.int (nI a), .long (st (fun k => fo (64 * a + k)) x i)]) (rest := [.long (st (fun k => fo (64 * a + k)) x i)]) ⟨hx, hb, hml, hown, htA⟩ (m_all l G cA mo ao fs fo a (st (fun k => fo (64 * a + k)) x i) hf1 ha) (cwV 2 htA (gd_V wd494 wd496 wd18 wd28 wd497) rfl rfl rfl (by decide +kernel) (by rw [hR]; exact ⟨Nat.le_of_ble_eq_true rfl, Nat.le_of_ble_eq_true rfl⟩)) (pw_V (ci := 4) (q := (RM, TM, 8)) hKN hob rfl ⟨hob, hal⟩) rfl rfl hl.1 rfl (lv_room (Nat.le_of_ble_eq_true rfl)) dM_star_18 (by rw [hR]; exact ⟨Nat.le_of_ble_eq_true rfl, Nat.le_of_ble_eq_true rfl⟩))) (fun r1 hr1 => ?_)
      subst hr1
      refine lv_lor hx hb dM_star_21 ?_
      refine pw_tl (y := st (fun k => fo (64 * a + k)) x (i + 1)) rfl ?_
      refine lv_lstore_n (lv' := [(3, .long (st (fun k => fo (64 * a + k)) x (i + 1))), (0, .ref mo), (1, .int (nI a)), (5, .int (nI i))]) hx hb dM_star_22 rfl hl (by decide) rfl (fun ls hl => ?_)
      refine lv_iinc (v := nI (i + 1)) (lv' := [(5, .int (nI (i + 1))), (3, .long (st (fun k => fo (64 * a + k)) x (i + 1))), (0, .ref mo), (1, .int (nI a))]) hx hb dM_star_23 hl (k := 3) rfl (nI_1 i) (by decide) rfl (fun ls hl => ?_)
      refine lv_goto (tgt := 7) hx hb dM_star_26 (by decide) ?_
      exact ih (i + 1) (by omega) ls (lv_sub hl [2, 3, 1, 0] rfl)
  exact lp (64) 0 (by omega) ls (lv_sub hl [2, 3, 1, 0] rfl)

set_option maxRecDepth 100000 in
set_option maxHeartbeats 4000000 in
theorem m_apart (l : Launch) (G : va_G) (cA : Nat → ClassId) (mo ao : Nat) (fs : List Value) (fo : Nat → Int64) (a b : Nat) (hf1 : fs[1]? = some (.ref ao)) (ha : a < 50) (hb0 : b < 50) : Met l yM_apart wsM_apart ({ frames := 0, cells := 0, slots := 0, locals := 0 }) (PH G cA [.ref mo, .int (nI a), .int (nI b)] (fun H => (ob G 4 mo fs H ∧ al (cA 0) ao 3200 fo H))) (vp_Si (fun r => ∃ k, apR (fun k => fo (64 * a + k)) (fun k => fo (64 * b + k)) k ∧ r = nI k)) 0 0 (fun _ => False) := by
  refine Met.ofW (cc := cM_apart) (maxL := 4) (ret := (some .int)) (by decide) rfl ?_
  intro p e s m args below meth c s₁ B hml hv
  obtain ⟨hav, hKN, hob, hal⟩ := hv
  have hK := hKN.1
  have hx := B.exec
  have hb := B.bytes
  have hrt := B.returns
  have htA : ∀ w ∈ ALL, w.before args s = true := fun w h => atoms_spec (ws := wsM_apart) B.pre w (List.mem_cons_of_mem _ h)
  have hown : s.vm.findClass RM = some m.cls := findClass_of_methodNamed B.named
  have hlocks := B.notSynchronized
  refine pw_nm (fun R Q hR hQ => ?_)
  refine pw_entry (vs := [.ref mo, .int (nI a), .int (nI b)]) hav (Nat.le_of_ble_eq_true rfl) (fun ls hl => ?_)
  have hl : lv_has ls 4 [(0, .ref mo), (1, .int (nI a)), (2, .int (nI b))] := hl
  refine lv_iconst (v := nI 0) hx hb dM_apart_0 (by decide) ?_
  refine lv_istore_n (lv' := [(3, .int (nI 0)), (0, .ref mo), (1, .int (nI a)), (2, .int (nI b))]) hx hb dM_apart_1 rfl hl (by decide) rfl (fun ls hl => ?_)
  have lp : ∀ (k i : Nat), i + k = 64 → (∀ j, j < i → fo (64 * a + j) = fo (64 * b + j)) → ∀ ls : Array Slot, lv_has ls 4 [(0, .ref mo), (1, .int (nI a)), (2, .int (nI b)), (3, .int (nI i))] → W p l e R s m args below meth c s.heap ([]) 0 0 Q (F0 m 2 ls []) := by
    intro k
    induction k with
    | zero =>
      intro i hik hinv ls hl
      have hi : i = 64 := by omega
      subst hi
      refine lv_iload_n hx hb dM_apart_2 rfl (lv_at hl 3 rfl) ?_
      refine lv_bipush (v := nI 64) hx hb dM_apart_3 (by decide) ?_
      refine lv_icmp_ge (tgt := 40) hx hb dM_apart_5 (by decide) (fun _ => ?_) (fun c9 => absurd (Int32.le_refl _) c9)
      refine lv_iload_n hx hb dM_apart_40 rfl (lv_at hl 3 rfl) ?_
      rw [hQ]
      exact W.iret (v := nI 64) hx hb hrt (fun t ht hW => ⟨_, rfl, ⟨64, ⟨Nat.le_refl _, hinv, fun h => absurd h (Nat.lt_irrefl _)⟩, rfl⟩, ht⟩) (fun q h => by cases h) dM_apart_41
    | succ k ih =>
      intro i hik hinv ls hl
      have hi : i < 64 := by omega
      refine lv_iload_n hx hb dM_apart_2 rfl (lv_at hl 3 rfl) ?_
      refine lv_bipush (v := nI 64) hx hb dM_apart_3 (by decide) ?_
      refine lv_icmp_ge (tgt := 40) hx hb dM_apart_5 (by decide) (fun c9 => absurd c9 (nI_ge hi (by decide))) (fun _ => ?_)
      refine lv_aload_n hx hb dM_apart_8 rfl (lv_at hl 0 rfl) ?_
      refine va_get (D := G) (ci := 4) (v := .ref ao) (C := RM) (T := TM) (N := 8) hx hb htA inM hown hK (ob_P hob) 0 rfl rfl 1 (by decide) (htA _ wd436) (fun _ h9 => h9) hf1 dM_apart_9 ?_
      refine lv_bipush (v := nI 64) hx hb dM_apart_12 (by decide) ?_
      refine lv_iload_n hx hb dM_apart_14 rfl (lv_at hl 1 rfl) ?_
      refine lv_imul hx hb dM_apart_15 ?_
      refine pw_ti (y := nI (64 * a)) (pk_mul _ _) ?_
      refine lv_iload_n hx hb dM_apart_16 rfl (lv_at hl 3 rfl) ?_
      refine lv_iadd hx hb dM_apart_17 ?_
      refine pw_ti (y := nI ((64 * a) + i)) (nI_add _ _) ?_
      refine pw_lald hx hb hK hal 0 rfl (by omega) (by decide) dM_apart_18 ?_
      refine lv_aload_n hx hb dM_apart_19 rfl (lv_at hl 0 rfl) ?_
      refine va_get (D := G) (ci := 4) (v := .ref ao) (C := RM) (T := TM) (N := 8) hx hb htA inM hown hK (ob_P hob) 0 rfl rfl 1 (by decide) (htA _ wd436) (fun _ h9 => h9) hf1 dM_apart_20 ?_
      refine lv_bipush (v := nI 64) hx hb dM_apart_23 (by decide) ?_
      refine lv_iload_n hx hb dM_apart_25 rfl (lv_at hl 2 rfl) ?_
      refine lv_imul hx hb dM_apart_26 ?_
      refine pw_ti (y := nI (64 * b)) (pk_mul _ _) ?_
      refine lv_iload_n hx hb dM_apart_27 rfl (lv_at hl 3 rfl) ?_
      refine lv_iadd hx hb dM_apart_28 ?_
      refine pw_ti (y := nI ((64 * b) + i)) (nI_add _ _) ?_
      refine pw_lald hx hb hK hal 0 rfl (by omega) (by decide) dM_apart_29 ?_
      refine W.lcmp hx hb dM_apart_30 ?_
      refine lv_if_ne (tgt := 40) hx hb dM_apart_31 (by decide) (fun c1 => ?_) (fun c1 => ?_)
      · have hq : ¬ fo (64 * a + i) = fo (64 * b + i) := fun q => c1 ((cmp0 _ _).mpr q)
        refine lv_iload_n hx hb dM_apart_40 rfl (lv_at hl 3 rfl) ?_
        rw [hQ]
        exact W.iret (v := nI i) hx hb hrt (fun t ht hW => ⟨_, rfl, ⟨i, ⟨by omega, hinv, fun _ => hq⟩, rfl⟩, ht⟩) (fun q h => by cases h) dM_apart_41
      · have hq : fo (64 * a + i) = fo (64 * b + i) := (cmp0 _ _).mp c1
        refine lv_iinc (v := nI (i + 1)) (lv' := [(3, .int (nI (i + 1))), (0, .ref mo), (1, .int (nI a)), (2, .int (nI b))]) hx hb dM_apart_34 hl (k := 3) rfl (nI_1 i) (by decide) rfl (fun ls hl => ?_)
        refine lv_goto (tgt := 2) hx hb dM_apart_37 (by decide) ?_
        exact ih (i + 1) (by omega) (lt_s hinv hq) ls (lv_sub hl [1, 2, 3, 0] rfl)
  exact lp (64) 0 (by omega) lt_0 ls (lv_sub hl [1, 2, 3, 0] rfl)

set_option maxRecDepth 100000 in
set_option maxHeartbeats 4000000 in
theorem m_action (l : Launch) (G : va_G) (cA : Nat → ClassId) (x : Nat) (hx0 : x < 64) (r : Nat) (hr0 : r < 64) : Met l yM_action wsM_action ({ frames := 1, cells := 0, slots := 0, locals := 21 }) (PH G cA [.int (nI x), .int (nI r)] (fun H => True)) (vp_Si (fun v => v = nI (act x r))) 0 0 (fun _ => False) := by
  refine Met.ofW (cc := cM_action) (maxL := 4) (ret := (some .int)) (by decide) rfl ?_
  intro p e s m args below meth c s₁ B hml hv
  obtain ⟨hav, hKN, -⟩ := hv
  have hK := hKN.1
  have hx := B.exec
  have hb := B.bytes
  have hrt := B.returns
  have htA : ∀ w ∈ ALL, w.before args s = true := fun w h => atoms_spec (ws := wsM_action) B.pre w (List.mem_cons_of_mem _ h)
  have hown : s.vm.findClass RM = some m.cls := findClass_of_methodNamed B.named
  have hlocks := B.notSynchronized
  refine pw_nm (fun R Q hR hQ => ?_)
  refine pw_entry (vs := [.int (nI x), .int (nI r)]) hav (Nat.le_of_ble_eq_true rfl) (fun ls hl => ?_)
  have hl : lv_has ls 4 [(0, .int (nI x)), (1, .int (nI r))] := hl
  refine lv_iconst (v := nI 0) hx hb dM_action_0 (by decide) ?_
  refine lv_istore_n (lv' := [(2, .int (nI 0)), (0, .int (nI x)), (1, .int (nI r))]) hx hb dM_action_1 rfl hl (by decide) rfl (fun ls hl => ?_)
  refine lv_iconst (v := nI 0) hx hb dM_action_2 (by decide) ?_
  refine lv_istore_n (lv' := [(3, .int (nI 0)), (2, .int (nI 0)), (0, .int (nI x)), (1, .int (nI r))]) hx hb dM_action_3 rfl hl (by decide) rfl (fun ls hl => ?_)
  have lp : ∀ (k i : Nat), i + k = 3 → ∀ ls : Array Slot, lv_has ls 4 [(0, .int (nI x)), (1, .int (nI r)), (2, .int (nI (ac x r i))), (3, .int (nI i))] → W p l e R s m args below meth c s.heap ([]) 0 0 Q (F0 m 4 ls []) := by
    intro k
    induction k with
    | zero =>
      intro i hik ls hl
      have hi : i = 3 := by omega
      subst hi
      refine lv_iload_n hx hb dM_action_4 rfl (lv_at hl 3 rfl) ?_
      refine lv_iconst (v := nI 3) hx hb dM_action_5 (by decide) ?_
      refine lv_icmp_ge (tgt := 42) hx hb dM_action_6 (by decide) (fun _ => ?_) (fun c9 => absurd (Int32.le_refl _) c9)
      refine lv_iload_n hx hb dM_action_42 rfl (lv_at hl 2 rfl) ?_
      rw [hQ]
      exact W.iret (v := nI (ac x r 3)) hx hb hrt (fun t ht hW => ⟨_, rfl, rfl, ht⟩) (fun q h => by cases h) dM_action_43
    | succ k ih =>
      intro i hik ls hl
      have hi : i < 3 := by omega
      refine lv_iload_n hx hb dM_action_4 rfl (lv_at hl 3 rfl) ?_
      refine lv_iconst (v := nI 3) hx hb dM_action_5 (by decide) ?_
      refine lv_icmp_ge (tgt := 42) hx hb dM_action_6 (by decide) (fun c9 => absurd c9 (nI_ge hi (by decide))) (fun _ => ?_)
      refine lv_iconst (v := nI 5) hx hb dM_action_9 (by decide) ?_
      refine lv_iload_n hx hb dM_action_10 rfl (lv_at hl 2 rfl) ?_
      refine lv_imul hx hb dM_action_11 ?_
      refine pw_ti (y := nI (5 * (ac x r i))) (pk_mul _ _) ?_
      refine lv_iload_n hx hb dM_action_12 rfl (lv_at hl 0 rfl) ?_
      refine lv_iload_n hx hb dM_action_13 rfl (lv_at hl 3 rfl) ?_
      refine vp_callSi (va_Run.run (va_runS (As := [.int (nI x), .int (nI i)]) (rest := [.int (nI (5 * (ac x r i)))]) ⟨hx, hb, hml, hown, htA⟩ (m_value l G cA x hx0 i hi) (va_cwS 2 htA (gd_S wd488 wd489 wd28 wd490) rfl rfl rfl (by decide +kernel) (by rw [hR]; exact ⟨Nat.le_of_ble_eq_true rfl, Nat.le_of_ble_eq_true rfl⟩)) (pw_S hKN trivial) rfl rfl hl.1 rfl (lv_room (Nat.le_of_ble_eq_true rfl)) dM_action_14 (by rw [hR]; exact ⟨Nat.le_of_ble_eq_true rfl, Nat.le_of_ble_eq_true rfl⟩))) (fun r1 hr1 => ?_)
      subst hr1
      refine lv_iload_n hx hb dM_action_17 rfl (lv_at hl 1 rfl) ?_
      refine lv_iload_n hx hb dM_action_18 rfl (lv_at hl 3 rfl) ?_
      refine vp_callSi (va_Run.run (va_runS (As := [.int (nI r), .int (nI i)]) (rest := [.int (nI (vl x i)), .int (nI (5 * (ac x r i)))]) ⟨hx, hb, hml, hown, htA⟩ (m_value l G cA r hr0 i hi) (va_cwS 2 htA (gd_S wd488 wd489 wd28 wd490) rfl rfl rfl (by decide +kernel) (by rw [hR]; exact ⟨Nat.le_of_ble_eq_true rfl, Nat.le_of_ble_eq_true rfl⟩)) (pw_S hKN trivial) rfl rfl hl.1 rfl (lv_room (Nat.le_of_ble_eq_true rfl)) dM_action_19 (by rw [hR]; exact ⟨Nat.le_of_ble_eq_true rfl, Nat.le_of_ble_eq_true rfl⟩))) (fun r2 hr2 => ?_)
      subst hr2
      have hv1 := vl_lt x i
      have hv2 := vl_lt r i
      refine lv_icmp_ne (tgt := 29) hx hb dM_action_22 (by decide) (fun c1 => ?_) (fun c1 => ?_)
      · have hq : ¬ vl r i = vl x i := fun q => c1 (by rw [q])
        refine lv_iload_n hx hb dM_action_29 rfl (lv_at hl 1 rfl) ?_
        refine lv_iload_n hx hb dM_action_30 rfl (lv_at hl 3 rfl) ?_
        refine vp_callSi (va_Run.run (va_runS (As := [.int (nI r), .int (nI i)]) (rest := [.int (nI (5 * (ac x r i)))]) ⟨hx, hb, hml, hown, htA⟩ (m_value l G cA r hr0 i hi) (va_cwS 2 htA (gd_S wd488 wd489 wd28 wd490) rfl rfl rfl (by decide +kernel) (by rw [hR]; exact ⟨Nat.le_of_ble_eq_true rfl, Nat.le_of_ble_eq_true rfl⟩)) (pw_S hKN trivial) rfl rfl hl.1 rfl (lv_room (Nat.le_of_ble_eq_true rfl)) dM_action_31 (by rw [hR]; exact ⟨Nat.le_of_ble_eq_true rfl, Nat.le_of_ble_eq_true rfl⟩))) (fun r3 hr3 => ?_)
        subst hr3
        refine lv_iadd hx hb dM_action_34 ?_
        refine pw_ti (y := nI ((5 * (ac x r i)) + (vl r i))) (nI_add _ _) ?_
        refine pw_ti (y := nI (ac x r (i + 1))) (by show _ = nI (ac x r i * 5 + (if vl r i = vl x i then 4 else vl r i)); rw [if_neg hq, Nat.mul_comm]) ?_
        refine lv_istore_n (lv' := [(2, .int (nI (ac x r (i + 1)))), (0, .int (nI x)), (1, .int (nI r)), (3, .int (nI i))]) hx hb dM_action_35 rfl hl (by decide) rfl (fun ls hl => ?_)
        refine lv_iinc (v := nI (i + 1)) (lv' := [(3, .int (nI (i + 1))), (2, .int (nI (ac x r (i + 1)))), (0, .int (nI x)), (1, .int (nI r))]) hx hb dM_action_36 hl (k := 3) rfl (nI_1 i) (by decide) rfl (fun ls hl => ?_)
        refine lv_goto (tgt := 4) hx hb dM_action_39 (by decide) ?_
        exact ih (i + 1) (by omega) ls (lv_sub hl [2, 3, 1, 0] rfl)
      · have hq : vl r i = vl x i := ((nI_eq (by omega) (by omega)).mp c1).symm
        refine lv_iconst (v := nI 4) hx hb dM_action_25 (by decide) ?_
        refine lv_goto (tgt := 34) hx hb dM_action_26 (by decide) ?_
        refine lv_iadd hx hb dM_action_34 ?_
        refine pw_ti (y := nI ((5 * (ac x r i)) + 4)) (nI_add _ _) ?_
        refine pw_ti (y := nI (ac x r (i + 1))) (by show _ = nI (ac x r i * 5 + (if vl r i = vl x i then 4 else vl r i)); rw [if_pos hq, Nat.mul_comm]) ?_
        refine lv_istore_n (lv' := [(2, .int (nI (ac x r (i + 1)))), (0, .int (nI x)), (1, .int (nI r)), (3, .int (nI i))]) hx hb dM_action_35 rfl hl (by decide) rfl (fun ls hl => ?_)
        refine lv_iinc (v := nI (i + 1)) (lv' := [(3, .int (nI (i + 1))), (2, .int (nI (ac x r (i + 1)))), (0, .int (nI x)), (1, .int (nI r))]) hx hb dM_action_36 hl (k := 3) rfl (nI_1 i) (by decide) rfl (fun ls hl => ?_)
        refine lv_goto (tgt := 4) hx hb dM_action_39 (by decide) ?_
        exact ih (i + 1) (by omega) ls (lv_sub hl [2, 3, 1, 0] rfl)
  exact lp (3) 0 (by omega) ls (lv_sub hl [2, 3, 1, 0] rfl)

set_option maxRecDepth 100000 in
set_option maxHeartbeats 4000000 in
theorem m_ones (l : Launch) (G : va_G) (cA : Nat → ClassId) (z : Int64) : Met l yM_ones wsM_ones ({ frames := 0, cells := 0, slots := 0, locals := 0 }) (PH G cA [.long z] (fun H => True)) (vp_Si (fun v => v = nI (cd z 64))) 0 0 (fun _ => False) := by
  refine Met.ofW (cc := cM_ones) (maxL := 4) (ret := (some .int)) (by decide) rfl ?_
  intro p e s m args below meth c s₁ B hml hv
  obtain ⟨hav, hKN, -⟩ := hv
  have hK := hKN.1
  have hx := B.exec
  have hb := B.bytes
  have hrt := B.returns
  have htA : ∀ w ∈ ALL, w.before args s = true := fun w h => atoms_spec (ws := wsM_ones) B.pre w (List.mem_cons_of_mem _ h)
  have hown : s.vm.findClass RM = some m.cls := findClass_of_methodNamed B.named
  have hlocks := B.notSynchronized
  refine pw_nm (fun R Q hR hQ => ?_)
  refine pw_entry (vs := [.long z]) hav (Nat.le_of_ble_eq_true rfl) (fun ls hl => ?_)
  have hl : lv_has ls 4 [(0, .long z)] := hl
  refine lv_iconst (v := nI 0) hx hb dM_ones_0 (by decide) ?_
  refine lv_istore_n (lv' := [(2, .int (nI 0)), (0, .long z)]) hx hb dM_ones_1 rfl hl (by decide) rfl (fun ls hl => ?_)
  refine lv_iconst (v := nI 0) hx hb dM_ones_2 (by decide) ?_
  refine lv_istore_n (lv' := [(3, .int (nI 0)), (2, .int (nI 0)), (0, .long z)]) hx hb dM_ones_3 rfl hl (by decide) rfl (fun ls hl => ?_)
  have lp : ∀ (k i : Nat), i + k = 64 → ∀ ls : Array Slot, lv_has ls 4 [(0, .long z), (2, .int (nI (cd z i))), (3, .int (nI i))] → W p l e R s m args below meth c s.heap ([]) 0 0 Q (F0 m 4 ls []) := by
    intro k
    induction k with
    | zero =>
      intro i hik ls hl
      have hi : i = 64 := by omega
      subst hi
      refine lv_iload_n hx hb dM_ones_4 rfl (lv_at hl 2 rfl) ?_
      refine lv_bipush (v := nI 64) hx hb dM_ones_5 (by decide) ?_
      refine lv_icmp_ge (tgt := 29) hx hb dM_ones_7 (by decide) (fun _ => ?_) (fun c9 => absurd (Int32.le_refl _) c9)
      refine lv_iload_n hx hb dM_ones_29 rfl (lv_at hl 1 rfl) ?_
      rw [hQ]
      exact W.iret (v := nI (cd z 64)) hx hb hrt (fun t ht hW => ⟨_, rfl, rfl, ht⟩) (fun q h => by cases h) dM_ones_30
    | succ k ih =>
      intro i hik ls hl
      have hi : i < 64 := by omega
      refine lv_iload_n hx hb dM_ones_4 rfl (lv_at hl 2 rfl) ?_
      refine lv_bipush (v := nI 64) hx hb dM_ones_5 (by decide) ?_
      refine lv_icmp_ge (tgt := 29) hx hb dM_ones_7 (by decide) (fun c9 => absurd c9 (nI_ge hi (by decide))) (fun _ => ?_)
      refine lv_lload_n hx hb dM_ones_10 rfl (lv_at hl 0 rfl) ?_
      refine lv_iload_n hx hb dM_ones_11 rfl (lv_at hl 2 rfl) ?_
      refine lv_lshr hx hb dM_ones_12 rfl ?_
      refine lv_lconst (v := 1) hx hb dM_ones_13 rfl ?_
      refine lv_land hx hb dM_ones_14 ?_
      refine lv_lconst (v := 0) hx hb dM_ones_15 rfl ?_
      refine W.lcmp hx hb dM_ones_16 ?_
      refine lv_if_eq (tgt := 23) hx hb dM_ones_17 (by decide) (fun c1 => ?_) (fun c1 => ?_)
      · have hq : hbit z i = false := (hb_sshr z hi).mp ((cmp0 _ _).mp c1)
        have hg : cd z i = cd z (i + 1) := by show _ = cd z i + (if hbit z i = true then 1 else 0); rw [if_neg (by rw [hq]; decide)]; rfl
        rw [hg] at hl
        refine lv_iinc (v := nI (i + 1)) (lv' := [(3, .int (nI (i + 1))), (0, .long z), (2, .int (nI (cd z (i + 1))))]) hx hb dM_ones_23 hl (k := 2) rfl (nI_1 i) (by decide) rfl (fun ls hl => ?_)
        refine lv_goto (tgt := 4) hx hb dM_ones_26 (by decide) ?_
        exact ih (i + 1) (by omega) ls (lv_sub hl [1, 2, 0] rfl)
      · have hq : hbit z i = true := ts_nf (fun hz => c1 ((cmp0 _ _).mpr ((hb_sshr z hi).mpr hz)))
        have hg : cd z i + 1 = cd z (i + 1) := by show _ = cd z i + (if hbit z i = true then 1 else 0); rw [if_pos hq]
        refine lv_iinc (v := nI ((cd z i) + 1)) (lv' := [(2, .int (nI ((cd z i) + 1))), (0, .long z), (3, .int (nI i))]) hx hb dM_ones_20 hl (k := 1) rfl (nI_1 (cd z i)) (by decide) rfl (fun ls hl => ?_)
        rw [hg] at hl
        refine lv_iinc (v := nI (i + 1)) (lv' := [(3, .int (nI (i + 1))), (2, .int (nI (cd z (i + 1)))), (0, .long z)]) hx hb dM_ones_23 hl (k := 2) rfl (nI_1 i) (by decide) rfl (fun ls hl => ?_)
        refine lv_goto (tgt := 4) hx hb dM_ones_26 (by decide) ?_
        exact ih (i + 1) (by omega) ls (lv_sub hl [2, 1, 0] rfl)
  exact lp (64) 0 (by omega) ls (lv_sub hl [2, 1, 0] rfl)
end
section
set_option maxRecDepth 100000 in
set_option maxHeartbeats 4000000 in
theorem m_raise (l : Launch) (G : va_G) (cA : Nat → ClassId) (mo : Nat) (fs : List Value) (v : Int32) : Met l yM_raise wsM_raise ({ frames := 0, cells := 0, slots := 0, locals := 0 }) (PH G cA [.ref mo, .int v] (fun H => (ob G 4 mo fs H ∧ 0 < fs.length))) (fun _ st o t => o = .returned (some (.int 0)) ∧ ob G 4 mo (fs.set 0 (.int v)) t.heap ∧ t.heap.size = st.heap.size ∧ ∀ q, q ≠ mo → t.heap[q]? = st.heap[q]?) 0 0 (fun q => q = mo) := by
  refine Met.ofW (cc := cM_raise) (maxL := 2) (ret := (some .int)) (by decide) rfl ?_
  intro p e s m args below meth c s₁ B hml hv
  obtain ⟨hav, hKN, hob, hlen⟩ := hv
  have hK := hKN.1
  have hx := B.exec
  have hb := B.bytes
  have hrt := B.returns
  have htA : ∀ w ∈ ALL, w.before args s = true := fun w h => atoms_spec (ws := wsM_raise) B.pre w (List.mem_cons_of_mem _ h)
  have hown : s.vm.findClass RM = some m.cls := findClass_of_methodNamed B.named
  have hlocks := B.notSynchronized
  refine pw_nm (fun R Q hR hQ => ?_)
  refine pw_entry (vs := [.ref mo, .int v]) hav (Nat.le_of_ble_eq_true rfl) (fun ls hl => ?_)
  have hl : lv_has ls 2 [(0, .ref mo), (1, .int v)] := hl
  refine lv_aload_n hx hb dM_raise_0 rfl (lv_at hl 0 rfl) ?_
  refine lv_iload_n hx hb dM_raise_1 rfl (lv_at hl 1 rfl) ?_
  refine pw_put (ci := 4) (C := RM) (T := TM) (N := 8) (ty := .int) (F := fun q => q = mo) hx hb htA inM tyM tyM_ok nmM hown hK hob rfl 0 (by decide) (htA _ wd435) (fun _ h9 => h9) rfl (by decide +kernel) rfl rfl hlen (fun _ h => by cases h) rfl dM_raise_2 (fun H1 lc1 hob1 hz1 hk1 hL => ?_)
  refine lv_iconst (v := 0) hx hb dM_raise_5 (by decide) ?_
  rw [hQ]
  exact W.iret (v := 0) hx hb hrt (fun t ht hW => ⟨rfl, by rw [ht]; exact hob1, by rw [ht]; exact hz1, by rw [ht]; exact hk1⟩) hL dM_raise_6

set_option maxRecDepth 100000 in
set_option maxHeartbeats 4000000 in
theorem m_thrown (l : Launch) (G : va_G) (cA : Nat → ClassId) (mo : Nat) (fs : List Value) (th : Int32) (hf0 : fs[0]? = some (.int th)) : Met l yM_thrown wsM_thrown ({ frames := 0, cells := 0, slots := 0, locals := 0 }) (PH G cA [.ref mo] (fun H => ob G 4 mo fs H)) (vp_Si (fun r => r = th)) 0 0 (fun _ => False) := by
  refine Met.ofW (cc := cM_thrown) (maxL := 1) (ret := (some .int)) (by decide) rfl ?_
  intro p e s m args below meth c s₁ B hml hv
  obtain ⟨hav, hKN, hob⟩ := hv
  have hK := hKN.1
  have hx := B.exec
  have hb := B.bytes
  have hrt := B.returns
  have htA : ∀ w ∈ ALL, w.before args s = true := fun w h => atoms_spec (ws := wsM_thrown) B.pre w (List.mem_cons_of_mem _ h)
  have hown : s.vm.findClass RM = some m.cls := findClass_of_methodNamed B.named
  have hlocks := B.notSynchronized
  refine pw_nm (fun R Q hR hQ => ?_)
  refine pw_entry (vs := [.ref mo]) hav (Nat.le_of_ble_eq_true rfl) (fun ls hl => ?_)
  have hl : lv_has ls 1 [(0, .ref mo)] := hl
  refine lv_aload_n hx hb dM_thrown_0 rfl (lv_at hl 0 rfl) ?_
  refine va_get (D := G) (ci := 4) (v := .int th) (C := RM) (T := TM) (N := 8) hx hb htA inM hown hK (ob_P hob) 0 rfl rfl 0 (by decide) (htA _ wd435) (fun _ h9 => h9) hf0 dM_thrown_1 ?_
  rw [hQ]
  exact W.iret (v := th) hx hb hrt (fun t ht hW => ⟨_, rfl, rfl, ht⟩) (fun q h => by cases h) dM_thrown_4

set_option maxRecDepth 100000 in
set_option maxHeartbeats 4000000 in
theorem m_outcome (l : Launch) (G : va_G) (cA : Nat → ClassId) (mo ao af sa ea n : Nat) (fo : Nat → Int64) (fb : Nat → Int32) (v q : Int32) : Met l yM_outcome wsM_outcome ({ frames := 2, cells := 0, slots := 0, locals := 43 }) (PH G cA [.ref mo, .int v, .int q] (fun H => (mA mo ao af sa ea ∧ n ≤ 50 ∧ ∃ th, mV G cA mo ao af sa ea n fo fb th H))) (mL G cA mo ao af sa ea n fo fb (fun r th => (inb n v = false ∧ th = nI 1) ∨ (inb n v = true ∧ inb 64 q = false ∧ th = nI 2) ∨ (∃ a k, a < n ∧ k < 64 ∧ v = nI a ∧ q = nI k ∧ th = nI 0 ∧ r = fo (64 * a + k)))) 0 0 (mW mo sa ea) := by
  refine Met.ofW (cc := cM_outcome) (maxL := 3) (ret := (some .long)) (by decide) rfl ?_
  intro p e s m args below meth c s₁ B hml hv
  obtain ⟨hav, hKN, hA, hn, th0, lw, hg, fS, fE, hob, hal, hab, hsl, hel⟩ := hv
  have hK := hKN.1
  have hx := B.exec
  have hb := B.bytes
  have hrt := B.returns
  have htA : ∀ w ∈ ALL, w.before args s = true := fun w h => atoms_spec (ws := wsM_outcome) B.pre w (List.mem_cons_of_mem _ h)
  have hown : s.vm.findClass RM = some m.cls := findClass_of_methodNamed B.named
  have hlocks := B.notSynchronized
  refine pw_nm (fun R Q hR hQ => ?_)
  refine pw_entry (vs := [.ref mo, .int v, .int q]) hav (Nat.le_of_ble_eq_true rfl) (fun ls hl => ?_)
  have hl : lv_has ls 3 [(0, .ref mo), (1, .int v), (2, .int q)] := hl
  have hz : s.heap.size = s.heap.size := rfl
  have hk : ∀ q, q ≠ mo → q ≠ sa → q ≠ ea → s.heap[q]? = s.heap[q]? := fun _ _ _ _ => rfl
  have hL : ∀ z ∈ ([] : List Loc), mW mo sa ea z.base := fun _ h => by cases h
  refine lv_aload_n hx hb dM_outcome_0 rfl (lv_at hl 0 rfl) ?_
  refine lv_iconst (v := nI 0) hx hb dM_outcome_1 (by decide) ?_
  refine pw_put (ci := 4) (C := RM) (T := TM) (N := 8) (ty := .int) (F := mW mo sa ea) hx hb htA inM tyM tyM_ok nmM hown hK hob rfl 0 (by decide) (htA _ wd435) (fun _ h9 => h9) rfl (by decide +kernel) rfl rfl (Nat.le_of_ble_eq_true rfl) hL (Or.inl rfl) dM_outcome_2 (fun H1 lc2 hob1 hz1 hk1 hL => ?_)
  have hob : ob G 4 mo (mF (nI 0) ao af n lw hg sa ea) H1 := hob1
  have hal := al_k hal (hk1 ao hA.1)
  have hab := ai_k hab (hk1 af hA.2.1)
  have hsl := ai_k hsl (hk1 sa hA.2.2.1)
  have hel := ai_k hel (hk1 ea hA.2.2.2.1)
  have hk : ∀ q, q ≠ mo → q ≠ sa → q ≠ ea → H1[q]? = s.heap[q]? := fun q h1 h2 h3 => (hk1 q h1).trans (hk q h1 h2 h3)
  have hz := hz1.trans hz
  refine lv_aload_n hx hb dM_outcome_5 rfl (lv_at hl 0 rfl) ?_
  refine lv_iload_n hx hb dM_outcome_6 rfl (lv_at hl 1 rfl) ?_
  refine vp_callSi (va_Run.run (va_runV (As := [.int v]) (rest := []) ⟨hx, hb, hml, hown, htA⟩ (m_made l G cA mo n (mF (nI 0) ao af n lw hg sa ea) v rfl (by omega)) (cwV 1 htA (gd_V wd476 wd478 wd15 wd28 wd479) rfl rfl rfl (by decide +kernel) (by rw [hR]; exact ⟨Nat.le_of_ble_eq_true rfl, Nat.le_of_ble_eq_true rfl⟩)) (pw_V (ci := 4) (q := (RM, TM, 8)) hKN hob rfl hob) rfl rfl hl.1 rfl (lv_room (Nat.le_of_ble_eq_true rfl)) dM_outcome_7 (by rw [hR]; exact ⟨Nat.le_of_ble_eq_true rfl, Nat.le_of_ble_eq_true rfl⟩))) (fun r3 hr3 => ?_)
  subst hr3
  refine lv_if_ne (tgt := 20) hx hb dM_outcome_10 (by decide) (fun c1 => ?_) (fun c1 => ?_)
  · have hq := bI_ne.mp c1
    obtain ⟨a, ha, rfl⟩ := inb_t (by omega) hq
    refine lv_iload_n hx hb dM_outcome_20 rfl (lv_at hl 2 rfl) ?_
    refine lv_iconst (v := nI 0) hx hb dM_outcome_21 (by decide) ?_
    refine lv_bipush (v := nI 63) hx hb dM_outcome_22 (by decide) ?_
    refine vp_callSi (va_Run.run (va_runS (As := [.int q, .int (nI 0), .int (nI 63)]) (rest := []) ⟨hx, hb, hml, hown, htA⟩ (m_in l G cA q (nI 0) (nI 63)) (va_cwS 3 htA (gd_S wd473 wd474 wd28 wd475) rfl rfl rfl (by decide +kernel) (by rw [hR]; exact ⟨Nat.le_of_ble_eq_true rfl, Nat.le_of_ble_eq_true rfl⟩)) (pw_S hKN trivial) rfl rfl hl.1 rfl (lv_room (Nat.le_of_ble_eq_true rfl)) dM_outcome_24 (by rw [hR]; exact ⟨Nat.le_of_ble_eq_true rfl, Nat.le_of_ble_eq_true rfl⟩))) (fun r4 hr4 => ?_)
    subst hr4
    refine pw_ti (y := bI (inb 64 q)) (by rw [in_63 q 63 64 rfl (by decide)]) ?_
    refine lv_if_eq (tgt := 44) hx hb dM_outcome_27 (by decide) (fun c2 => ?_) (fun c2 => ?_)
    · have hq2 := bI_eq.mp c2
      refine lv_aload_n hx hb dM_outcome_44 rfl (lv_at hl 0 rfl) ?_
      refine lv_iconst (v := nI 2) hx hb dM_outcome_45 (by decide) ?_
      refine pw_call (F := mW mo sa ea) (va_runV (As := [.int (nI 2)]) (rest := []) ⟨hx, hb, hml, hown, htA⟩ (m_raise l G cA mo (mF (nI 0) ao af n lw hg sa ea) (nI 2)) (cwV 1 htA (gd_V wd480 wd482 wd16 wd28 wd483) rfl rfl rfl (by decide +kernel) (by rw [hR]; exact ⟨Nat.le_of_ble_eq_true rfl, Nat.le_of_ble_eq_true rfl⟩)) (pw_V (ci := 4) (q := (RM, TM, 8)) hKN hob rfl ⟨hob, Nat.zero_lt_succ _⟩) rfl rfl hl.1 rfl (lv_room (Nat.le_of_ble_eq_true rfl)) dM_outcome_46 (by rw [hR]; exact ⟨Nat.le_of_ble_eq_true rfl, Nat.le_of_ble_eq_true rfl⟩)) hL (fun q h => Or.inl h) (fun v9 st9 t9 lc6 h0 ha9 hL hq9 => ?_)
      obtain ⟨hv9, hob1, hz1, hk1⟩ := hq9
      cases hv9
      rw [h0] at hz1 hk1
      generalize t9.heap = H5 at hob1 hz1 hk1 ⊢
      have hob : ob G 4 mo (mF (nI 2) ao af n lw hg sa ea) H5 := hob1
      have hal := al_k hal (hk1 ao hA.1)
      have hab := ai_k hab (hk1 af hA.2.1)
      have hsl := ai_k hsl (hk1 sa hA.2.2.1)
      have hel := ai_k hel (hk1 ea hA.2.2.2.1)
      have hk : ∀ q, q ≠ mo → q ≠ sa → q ≠ ea → H5[q]? = s.heap[q]? := fun q h1 h2 h3 => (hk1 q h1).trans (hk q h1 h2 h3)
      have hz := hz1.trans hz
      refine lv_i2l hx hb dM_outcome_49 rfl ?_
      rw [hQ]
      exact W.lret (v := (0 : Int32).toInt64) hx hb hrt (fun t ht hW => ⟨_, (nI 2), rfl, (Or.inr (Or.inl ⟨hq, hq2, rfl⟩)), ⟨lw, hg, fS, fE, by rw [ht]; exact ⟨hob, hal, hab, hsl, hel⟩⟩, by rw [ht]; exact hz, by rw [ht]; exact hk⟩) hL dM_outcome_50
    · obtain ⟨k, hk0, rfl⟩ := inb_t (by decide) (bI_ne.mp c2)
      refine lv_aload_n hx hb dM_outcome_30 rfl (lv_at hl 0 rfl) ?_
      refine va_get (D := G) (ci := 4) (v := .ref ao) (C := RM) (T := TM) (N := 8) hx hb htA inM hown hK (ob_P hob) 0 rfl rfl 1 (by decide) (htA _ wd436) (fun _ h9 => h9) rfl dM_outcome_31 ?_
      refine lv_bipush (v := nI 64) hx hb dM_outcome_34 (by decide) ?_
      refine lv_iload_n hx hb dM_outcome_36 rfl (lv_at hl 1 rfl) ?_
      refine lv_imul hx hb dM_outcome_37 ?_
      refine pw_ti (y := nI (64 * a)) (pk_mul _ _) ?_
      refine lv_iload_n hx hb dM_outcome_38 rfl (lv_at hl 2 rfl) ?_
      refine lv_iadd hx hb dM_outcome_39 ?_
      refine pw_ti (y := nI ((64 * a) + k)) (nI_add _ _) ?_
      refine pw_lald hx hb hK hal 0 rfl (by omega) (by decide) dM_outcome_40 ?_
      refine lv_goto (tgt := 50) hx hb dM_outcome_41 (by decide) ?_
      rw [hQ]
      exact W.lret (v := fo ((64 * a) + k)) hx hb hrt (fun t ht hW => ⟨_, (nI 0), rfl, (Or.inr (Or.inr ⟨a, k, ha, hk0, rfl, rfl, rfl, rfl⟩)), ⟨lw, hg, fS, fE, by rw [ht]; exact ⟨hob, hal, hab, hsl, hel⟩⟩, by rw [ht]; exact hz, by rw [ht]; exact hk⟩) hL dM_outcome_50
  · have hq := bI_eq.mp c1
    refine lv_aload_n hx hb dM_outcome_13 rfl (lv_at hl 0 rfl) ?_
    refine lv_iconst (v := nI 1) hx hb dM_outcome_14 (by decide) ?_
    refine pw_call (F := mW mo sa ea) (va_runV (As := [.int (nI 1)]) (rest := []) ⟨hx, hb, hml, hown, htA⟩ (m_raise l G cA mo (mF (nI 0) ao af n lw hg sa ea) (nI 1)) (cwV 1 htA (gd_V wd480 wd482 wd16 wd28 wd483) rfl rfl rfl (by decide +kernel) (by rw [hR]; exact ⟨Nat.le_of_ble_eq_true rfl, Nat.le_of_ble_eq_true rfl⟩)) (pw_V (ci := 4) (q := (RM, TM, 8)) hKN hob rfl ⟨hob, Nat.zero_lt_succ _⟩) rfl rfl hl.1 rfl (lv_room (Nat.le_of_ble_eq_true rfl)) dM_outcome_15 (by rw [hR]; exact ⟨Nat.le_of_ble_eq_true rfl, Nat.le_of_ble_eq_true rfl⟩)) hL (fun q h => Or.inl h) (fun v9 st9 t9 lc5 h0 ha9 hL hq9 => ?_)
    obtain ⟨hv9, hob1, hz1, hk1⟩ := hq9
    cases hv9
    rw [h0] at hz1 hk1
    generalize t9.heap = H4 at hob1 hz1 hk1 ⊢
    have hob : ob G 4 mo (mF (nI 1) ao af n lw hg sa ea) H4 := hob1
    have hal := al_k hal (hk1 ao hA.1)
    have hab := ai_k hab (hk1 af hA.2.1)
    have hsl := ai_k hsl (hk1 sa hA.2.2.1)
    have hel := ai_k hel (hk1 ea hA.2.2.2.1)
    have hk : ∀ q, q ≠ mo → q ≠ sa → q ≠ ea → H4[q]? = s.heap[q]? := fun q h1 h2 h3 => (hk1 q h1).trans (hk q h1 h2 h3)
    have hz := hz1.trans hz
    refine lv_i2l hx hb dM_outcome_18 rfl ?_
    rw [hQ]
    exact W.lret (v := (0 : Int32).toInt64) hx hb hrt (fun t ht hW => ⟨_, (nI 1), rfl, (Or.inl ⟨hq, rfl⟩), ⟨lw, hg, fS, fE, by rw [ht]; exact ⟨hob, hal, hab, hsl, hel⟩⟩, by rw [ht]; exact hz, by rw [ht]; exact hk⟩) hL dM_outcome_19

set_option maxRecDepth 100000 in
set_option maxHeartbeats 4000000 in
theorem m_image (l : Launch) (G : va_G) (cA : Nat → ClassId) (mo ao af sa ea n : Nat) (fo : Nat → Int64) (fb : Nat → Int32) (v : Int32) (z : Int64) : Met l yM_image wsM_image ({ frames := 2, cells := 0, slots := 0, locals := 43 }) (PH G cA [.ref mo, .int v, .long z] (fun H => (mA mo ao af sa ea ∧ n ≤ 50 ∧ ∃ th, mV G cA mo ao af sa ea n fo fb th H))) (mL G cA mo ao af sa ea n fo fb (fun r th => (inb n v = false ∧ th = nI 1) ∨ (∃ a, a < n ∧ v = nI a ∧ th = nI 0 ∧ r = gf (fun k => fo (64 * a + k)) z 64))) 0 0 (mW mo sa ea) := by
  refine Met.ofW (cc := cM_image) (maxL := 4) (ret := (some .long)) (by decide) rfl ?_
  intro p e s m args below meth c s₁ B hml hv
  obtain ⟨hav, hKN, hA, hn, th0, lw, hg, fS, fE, hob, hal, hab, hsl, hel⟩ := hv
  have hK := hKN.1
  have hx := B.exec
  have hb := B.bytes
  have hrt := B.returns
  have htA : ∀ w ∈ ALL, w.before args s = true := fun w h => atoms_spec (ws := wsM_image) B.pre w (List.mem_cons_of_mem _ h)
  have hown : s.vm.findClass RM = some m.cls := findClass_of_methodNamed B.named
  have hlocks := B.notSynchronized
  refine pw_nm (fun R Q hR hQ => ?_)
  refine pw_entry (vs := [.ref mo, .int v, .long z]) hav (Nat.le_of_ble_eq_true rfl) (fun ls hl => ?_)
  have hl : lv_has ls 4 [(0, .ref mo), (1, .int v), (2, .long z)] := hl
  have hz : s.heap.size = s.heap.size := rfl
  have hk : ∀ q, q ≠ mo → q ≠ sa → q ≠ ea → s.heap[q]? = s.heap[q]? := fun _ _ _ _ => rfl
  have hL : ∀ z ∈ ([] : List Loc), mW mo sa ea z.base := fun _ h => by cases h
  refine lv_aload_n hx hb dM_image_0 rfl (lv_at hl 0 rfl) ?_
  refine lv_iconst (v := nI 0) hx hb dM_image_1 (by decide) ?_
  refine pw_put (ci := 4) (C := RM) (T := TM) (N := 8) (ty := .int) (F := mW mo sa ea) hx hb htA inM tyM tyM_ok nmM hown hK hob rfl 0 (by decide) (htA _ wd435) (fun _ h9 => h9) rfl (by decide +kernel) rfl rfl (Nat.le_of_ble_eq_true rfl) hL (Or.inl rfl) dM_image_2 (fun H1 lc2 hob1 hz1 hk1 hL => ?_)
  have hob : ob G 4 mo (mF (nI 0) ao af n lw hg sa ea) H1 := hob1
  have hal := al_k hal (hk1 ao hA.1)
  have hab := ai_k hab (hk1 af hA.2.1)
  have hsl := ai_k hsl (hk1 sa hA.2.2.1)
  have hel := ai_k hel (hk1 ea hA.2.2.2.1)
  have hk : ∀ q, q ≠ mo → q ≠ sa → q ≠ ea → H1[q]? = s.heap[q]? := fun q h1 h2 h3 => (hk1 q h1).trans (hk q h1 h2 h3)
  have hz := hz1.trans hz
  refine lv_aload_n hx hb dM_image_5 rfl (lv_at hl 0 rfl) ?_
  refine lv_iload_n hx hb dM_image_6 rfl (lv_at hl 1 rfl) ?_
  refine vp_callSi (va_Run.run (va_runV (As := [.int v]) (rest := []) ⟨hx, hb, hml, hown, htA⟩ (m_made l G cA mo n (mF (nI 0) ao af n lw hg sa ea) v rfl (by omega)) (cwV 1 htA (gd_V wd476 wd478 wd15 wd28 wd479) rfl rfl rfl (by decide +kernel) (by rw [hR]; exact ⟨Nat.le_of_ble_eq_true rfl, Nat.le_of_ble_eq_true rfl⟩)) (pw_V (ci := 4) (q := (RM, TM, 8)) hKN hob rfl hob) rfl rfl hl.1 rfl (lv_room (Nat.le_of_ble_eq_true rfl)) dM_image_7 (by rw [hR]; exact ⟨Nat.le_of_ble_eq_true rfl, Nat.le_of_ble_eq_true rfl⟩))) (fun r3 hr3 => ?_)
  subst hr3
  refine lv_if_eq (tgt := 22) hx hb dM_image_10 (by decide) (fun c1 => ?_) (fun c1 => ?_)
  · have hq := bI_eq.mp c1
    refine lv_aload_n hx hb dM_image_22 rfl (lv_at hl 0 rfl) ?_
    refine lv_iconst (v := nI 1) hx hb dM_image_23 (by decide) ?_
    refine pw_call (F := mW mo sa ea) (va_runV (As := [.int (nI 1)]) (rest := []) ⟨hx, hb, hml, hown, htA⟩ (m_raise l G cA mo (mF (nI 0) ao af n lw hg sa ea) (nI 1)) (cwV 1 htA (gd_V wd480 wd482 wd16 wd28 wd483) rfl rfl rfl (by decide +kernel) (by rw [hR]; exact ⟨Nat.le_of_ble_eq_true rfl, Nat.le_of_ble_eq_true rfl⟩)) (pw_V (ci := 4) (q := (RM, TM, 8)) hKN hob rfl ⟨hob, Nat.zero_lt_succ _⟩) rfl rfl hl.1 rfl (lv_room (Nat.le_of_ble_eq_true rfl)) dM_image_24 (by rw [hR]; exact ⟨Nat.le_of_ble_eq_true rfl, Nat.le_of_ble_eq_true rfl⟩)) hL (fun q h => Or.inl h) (fun v9 st9 t9 lc5 h0 ha9 hL hq9 => ?_)
    obtain ⟨hv9, hob1, hz1, hk1⟩ := hq9
    cases hv9
    rw [h0] at hz1 hk1
    generalize t9.heap = H4 at hob1 hz1 hk1 ⊢
    have hob : ob G 4 mo (mF (nI 1) ao af n lw hg sa ea) H4 := hob1
    have hal := al_k hal (hk1 ao hA.1)
    have hab := ai_k hab (hk1 af hA.2.1)
    have hsl := ai_k hsl (hk1 sa hA.2.2.1)
    have hel := ai_k hel (hk1 ea hA.2.2.2.1)
    have hk : ∀ q, q ≠ mo → q ≠ sa → q ≠ ea → H4[q]? = s.heap[q]? := fun q h1 h2 h3 => (hk1 q h1).trans (hk q h1 h2 h3)
    have hz := hz1.trans hz
    refine lv_i2l hx hb dM_image_27 rfl ?_
    rw [hQ]
    exact W.lret (v := (0 : Int32).toInt64) hx hb hrt (fun t ht hW => ⟨_, (nI 1), rfl, (Or.inl ⟨hq, rfl⟩), ⟨lw, hg, fS, fE, by rw [ht]; exact ⟨hob, hal, hab, hsl, hel⟩⟩, by rw [ht]; exact hz, by rw [ht]; exact hk⟩) hL dM_image_28
  · obtain ⟨a, ha, rfl⟩ := inb_t (by omega) (bI_ne.mp c1)
    refine lv_aload_n hx hb dM_image_13 rfl (lv_at hl 0 rfl) ?_
    refine lv_iload_n hx hb dM_image_14 rfl (lv_at hl 1 rfl) ?_
    refine lv_lload_n hx hb dM_image_15 rfl (lv_at hl 2 rfl) ?_
    refine vp_callSl (va_Run.run (va_runV (As := [.int (nI a), .long z]) (rest := []) ⟨hx, hb, hml, hown, htA⟩ (m_all l G cA mo ao (mF (nI 0) ao af n lw hg sa ea) fo a z rfl (by omega)) (cwV 2 htA (gd_V wd494 wd496 wd18 wd28 wd497) rfl rfl rfl (by decide +kernel) (by rw [hR]; exact ⟨Nat.le_of_ble_eq_true rfl, Nat.le_of_ble_eq_true rfl⟩)) (pw_V (ci := 4) (q := (RM, TM, 8)) hKN hob rfl ⟨hob, hal⟩) rfl rfl hl.1 rfl (lv_room (Nat.le_of_ble_eq_true rfl)) dM_image_16 (by rw [hR]; exact ⟨Nat.le_of_ble_eq_true rfl, Nat.le_of_ble_eq_true rfl⟩))) (fun r4 hr4 => ?_)
    subst hr4
    refine lv_goto (tgt := 28) hx hb dM_image_19 (by decide) ?_
    rw [hQ]
    exact W.lret (v := gf (fun k => fo (64 * a + k)) z 64) hx hb hrt (fun t ht hW => ⟨_, (nI 0), rfl, (Or.inr ⟨a, ha, rfl, rfl, rfl⟩), ⟨lw, hg, fS, fE, by rw [ht]; exact ⟨hob, hal, hab, hsl, hel⟩⟩, by rw [ht]; exact hz, by rw [ht]; exact hk⟩) hL dM_image_28

set_option maxRecDepth 100000 in
set_option maxHeartbeats 4000000 in
theorem m_filter (l : Launch) (G : va_G) (cA : Nat → ClassId) (mo ao af sa ea n : Nat) (fo : Nat → Int64) (fb : Nat → Int32) (v : Int32) : Met l yM_filter wsM_filter ({ frames := 2, cells := 0, slots := 0, locals := 43 }) (PH G cA [.ref mo, .int v] (fun H => (mA mo ao af sa ea ∧ n ≤ 50 ∧ ∃ th, mV G cA mo ao af sa ea n fo fb th H))) (mI G cA mo ao af sa ea n fo fb (fun r th => (inb n v = false ∧ th = nI 1) ∨ (∃ a, a < n ∧ v = nI a ∧ th = nI 0 ∧ ((fb a = 0 ∧ r = 0) ∨ (¬ fb a = 0 ∧ r = 1))))) 0 0 (mW mo sa ea) := by
  refine Met.ofW (cc := cM_filter) (maxL := 2) (ret := (some .int)) (by decide) rfl ?_
  intro p e s m args below meth c s₁ B hml hv
  obtain ⟨hav, hKN, hA, hn, th0, lw, hg, fS, fE, hob, hal, hab, hsl, hel⟩ := hv
  have hK := hKN.1
  have hx := B.exec
  have hb := B.bytes
  have hrt := B.returns
  have htA : ∀ w ∈ ALL, w.before args s = true := fun w h => atoms_spec (ws := wsM_filter) B.pre w (List.mem_cons_of_mem _ h)
  have hown : s.vm.findClass RM = some m.cls := findClass_of_methodNamed B.named
  have hlocks := B.notSynchronized
  refine pw_nm (fun R Q hR hQ => ?_)
  refine pw_entry (vs := [.ref mo, .int v]) hav (Nat.le_of_ble_eq_true rfl) (fun ls hl => ?_)
  have hl : lv_has ls 2 [(0, .ref mo), (1, .int v)] := hl
  have hz : s.heap.size = s.heap.size := rfl
  have hk : ∀ q, q ≠ mo → q ≠ sa → q ≠ ea → s.heap[q]? = s.heap[q]? := fun _ _ _ _ => rfl
  have hL : ∀ z ∈ ([] : List Loc), mW mo sa ea z.base := fun _ h => by cases h
  refine lv_aload_n hx hb dM_filter_0 rfl (lv_at hl 0 rfl) ?_
  refine lv_iconst (v := nI 0) hx hb dM_filter_1 (by decide) ?_
  refine pw_put (ci := 4) (C := RM) (T := TM) (N := 8) (ty := .int) (F := mW mo sa ea) hx hb htA inM tyM tyM_ok nmM hown hK hob rfl 0 (by decide) (htA _ wd435) (fun _ h9 => h9) rfl (by decide +kernel) rfl rfl (Nat.le_of_ble_eq_true rfl) hL (Or.inl rfl) dM_filter_2 (fun H1 lc2 hob1 hz1 hk1 hL => ?_)
  have hob : ob G 4 mo (mF (nI 0) ao af n lw hg sa ea) H1 := hob1
  have hal := al_k hal (hk1 ao hA.1)
  have hab := ai_k hab (hk1 af hA.2.1)
  have hsl := ai_k hsl (hk1 sa hA.2.2.1)
  have hel := ai_k hel (hk1 ea hA.2.2.2.1)
  have hk : ∀ q, q ≠ mo → q ≠ sa → q ≠ ea → H1[q]? = s.heap[q]? := fun q h1 h2 h3 => (hk1 q h1).trans (hk q h1 h2 h3)
  have hz := hz1.trans hz
  refine lv_aload_n hx hb dM_filter_5 rfl (lv_at hl 0 rfl) ?_
  refine lv_iload_n hx hb dM_filter_6 rfl (lv_at hl 1 rfl) ?_
  refine vp_callSi (va_Run.run (va_runV (As := [.int v]) (rest := []) ⟨hx, hb, hml, hown, htA⟩ (m_made l G cA mo n (mF (nI 0) ao af n lw hg sa ea) v rfl (by omega)) (cwV 1 htA (gd_V wd476 wd478 wd15 wd28 wd479) rfl rfl rfl (by decide +kernel) (by rw [hR]; exact ⟨Nat.le_of_ble_eq_true rfl, Nat.le_of_ble_eq_true rfl⟩)) (pw_V (ci := 4) (q := (RM, TM, 8)) hKN hob rfl hob) rfl rfl hl.1 rfl (lv_room (Nat.le_of_ble_eq_true rfl)) dM_filter_7 (by rw [hR]; exact ⟨Nat.le_of_ble_eq_true rfl, Nat.le_of_ble_eq_true rfl⟩))) (fun r3 hr3 => ?_)
  subst hr3
  refine lv_if_ne (tgt := 19) hx hb dM_filter_10 (by decide) (fun c1 => ?_) (fun c1 => ?_)
  · obtain ⟨a, ha, rfl⟩ := inb_t (by omega) (bI_ne.mp c1)
    refine lv_aload_n hx hb dM_filter_19 rfl (lv_at hl 0 rfl) ?_
    refine va_get (D := G) (ci := 4) (v := .ref af) (C := RM) (T := TM) (N := 8) hx hb htA inM hown hK (ob_P hob) 0 rfl rfl 2 (by decide) (htA _ wd437) (fun _ h9 => h9) rfl dM_filter_20 ?_
    refine lv_iload_n hx hb dM_filter_23 rfl (lv_at hl 1 rfl) ?_
    refine pw_zald hx hb hK hab 3 rfl (by omega) (by decide) dM_filter_24 ?_
    refine lv_if_eq (tgt := 32) hx hb dM_filter_25 (by decide) (fun c2 => ?_) (fun c2 => ?_)
    · refine lv_iconst (v := nI 0) hx hb dM_filter_32 (by decide) ?_
      rw [hQ]
      exact W.iret (v := nI 0) hx hb hrt (fun t ht hW => ⟨_, (nI 0), rfl, (Or.inr ⟨a, ha, rfl, rfl, Or.inl ⟨c2, rfl⟩⟩), ⟨lw, hg, fS, fE, by rw [ht]; exact ⟨hob, hal, hab, hsl, hel⟩⟩, by rw [ht]; exact hz, by rw [ht]; exact hk⟩) hL dM_filter_33
    · refine lv_iconst (v := nI 1) hx hb dM_filter_28 (by decide) ?_
      refine lv_goto (tgt := 33) hx hb dM_filter_29 (by decide) ?_
      rw [hQ]
      exact W.iret (v := nI 1) hx hb hrt (fun t ht hW => ⟨_, (nI 0), rfl, (Or.inr ⟨a, ha, rfl, rfl, Or.inr ⟨c2, rfl⟩⟩), ⟨lw, hg, fS, fE, by rw [ht]; exact ⟨hob, hal, hab, hsl, hel⟩⟩, by rw [ht]; exact hz, by rw [ht]; exact hk⟩) hL dM_filter_33
  · have hq := bI_eq.mp c1
    refine lv_aload_n hx hb dM_filter_13 rfl (lv_at hl 0 rfl) ?_
    refine lv_iconst (v := nI 1) hx hb dM_filter_14 (by decide) ?_
    refine pw_call (F := mW mo sa ea) (va_runV (As := [.int (nI 1)]) (rest := []) ⟨hx, hb, hml, hown, htA⟩ (m_raise l G cA mo (mF (nI 0) ao af n lw hg sa ea) (nI 1)) (cwV 1 htA (gd_V wd480 wd482 wd16 wd28 wd483) rfl rfl rfl (by decide +kernel) (by rw [hR]; exact ⟨Nat.le_of_ble_eq_true rfl, Nat.le_of_ble_eq_true rfl⟩)) (pw_V (ci := 4) (q := (RM, TM, 8)) hKN hob rfl ⟨hob, Nat.zero_lt_succ _⟩) rfl rfl hl.1 rfl (lv_room (Nat.le_of_ble_eq_true rfl)) dM_filter_15 (by rw [hR]; exact ⟨Nat.le_of_ble_eq_true rfl, Nat.le_of_ble_eq_true rfl⟩)) hL (fun q h => Or.inl h) (fun v9 st9 t9 lc5 h0 ha9 hL hq9 => ?_)
    obtain ⟨hv9, hob1, hz1, hk1⟩ := hq9
    cases hv9
    rw [h0] at hz1 hk1
    generalize t9.heap = H4 at hob1 hz1 hk1 ⊢
    have hob : ob G 4 mo (mF (nI 1) ao af n lw hg sa ea) H4 := hob1
    have hal := al_k hal (hk1 ao hA.1)
    have hab := ai_k hab (hk1 af hA.2.1)
    have hsl := ai_k hsl (hk1 sa hA.2.2.1)
    have hel := ai_k hel (hk1 ea hA.2.2.2.1)
    have hk : ∀ q, q ≠ mo → q ≠ sa → q ≠ ea → H4[q]? = s.heap[q]? := fun q h1 h2 h3 => (hk1 q h1).trans (hk q h1 h2 h3)
    have hz := hz1.trans hz
    rw [hQ]
    exact W.iret (v := 0) hx hb hrt (fun t ht hW => ⟨_, (nI 1), rfl, (Or.inl ⟨hq, rfl⟩), ⟨lw, hg, fS, fE, by rw [ht]; exact ⟨hob, hal, hab, hsl, hel⟩⟩, by rw [ht]; exact hz, by rw [ht]; exact hk⟩) hL dM_filter_18

set_option maxRecDepth 100000 in
set_option maxHeartbeats 4000000 in
theorem m_same (l : Launch) (G : va_G) (cA : Nat → ClassId) (mo ao af sa ea n : Nat) (fo : Nat → Int64) (fb : Nat → Int32) (v v2 : Int32) : Met l yM_same wsM_same ({ frames := 2, cells := 0, slots := 0, locals := 43 }) (PH G cA [.ref mo, .int v, .int v2] (fun H => (mA mo ao af sa ea ∧ n ≤ 50 ∧ ∃ th, mV G cA mo ao af sa ea n fo fb th H))) (mI G cA mo ao af sa ea n fo fb (fun r th => ((inb n v = false ∨ inb n v2 = false) ∧ th = nI 1) ∨ (∃ a b, a < n ∧ b < n ∧ v = nI a ∧ v2 = nI b ∧  th = nI 0 ∧ ∃ k, apR (fun k => fo (64 * a + k)) (fun k => fo (64 * b + k)) k ∧ ((k = 64 ∧ r = 1) ∨ (¬ k = 64 ∧ r = 0))))) 0 0 (mW mo sa ea) := by
  refine Met.ofW (cc := cM_same) (maxL := 3) (ret := (some .int)) (by decide) rfl ?_
  intro p e s m args below meth c s₁ B hml hv
  obtain ⟨hav, hKN, hA, hn, th0, lw, hg, fS, fE, hob, hal, hab, hsl, hel⟩ := hv
  have hK := hKN.1
  have hx := B.exec
  have hb := B.bytes
  have hrt := B.returns
  have htA : ∀ w ∈ ALL, w.before args s = true := fun w h => atoms_spec (ws := wsM_same) B.pre w (List.mem_cons_of_mem _ h)
  have hown : s.vm.findClass RM = some m.cls := findClass_of_methodNamed B.named
  have hlocks := B.notSynchronized
  refine pw_nm (fun R Q hR hQ => ?_)
  refine pw_entry (vs := [.ref mo, .int v, .int v2]) hav (Nat.le_of_ble_eq_true rfl) (fun ls hl => ?_)
  have hl : lv_has ls 3 [(0, .ref mo), (1, .int v), (2, .int v2)] := hl
  have hz : s.heap.size = s.heap.size := rfl
  have hk : ∀ q, q ≠ mo → q ≠ sa → q ≠ ea → s.heap[q]? = s.heap[q]? := fun _ _ _ _ => rfl
  have hL : ∀ z ∈ ([] : List Loc), mW mo sa ea z.base := fun _ h => by cases h
  refine lv_aload_n hx hb dM_same_0 rfl (lv_at hl 0 rfl) ?_
  refine lv_iconst (v := nI 0) hx hb dM_same_1 (by decide) ?_
  refine pw_put (ci := 4) (C := RM) (T := TM) (N := 8) (ty := .int) (F := mW mo sa ea) hx hb htA inM tyM tyM_ok nmM hown hK hob rfl 0 (by decide) (htA _ wd435) (fun _ h9 => h9) rfl (by decide +kernel) rfl rfl (Nat.le_of_ble_eq_true rfl) hL (Or.inl rfl) dM_same_2 (fun H1 lc2 hob1 hz1 hk1 hL => ?_)
  have hob : ob G 4 mo (mF (nI 0) ao af n lw hg sa ea) H1 := hob1
  have hal := al_k hal (hk1 ao hA.1)
  have hab := ai_k hab (hk1 af hA.2.1)
  have hsl := ai_k hsl (hk1 sa hA.2.2.1)
  have hel := ai_k hel (hk1 ea hA.2.2.2.1)
  have hk : ∀ q, q ≠ mo → q ≠ sa → q ≠ ea → H1[q]? = s.heap[q]? := fun q h1 h2 h3 => (hk1 q h1).trans (hk q h1 h2 h3)
  have hz := hz1.trans hz
  refine lv_aload_n hx hb dM_same_5 rfl (lv_at hl 0 rfl) ?_
  refine lv_iload_n hx hb dM_same_6 rfl (lv_at hl 1 rfl) ?_
  refine vp_callSi (va_Run.run (va_runV (As := [.int v]) (rest := []) ⟨hx, hb, hml, hown, htA⟩ (m_made l G cA mo n (mF (nI 0) ao af n lw hg sa ea) v rfl (by omega)) (cwV 1 htA (gd_V wd476 wd478 wd15 wd28 wd479) rfl rfl rfl (by decide +kernel) (by rw [hR]; exact ⟨Nat.le_of_ble_eq_true rfl, Nat.le_of_ble_eq_true rfl⟩)) (pw_V (ci := 4) (q := (RM, TM, 8)) hKN hob rfl hob) rfl rfl hl.1 rfl (lv_room (Nat.le_of_ble_eq_true rfl)) dM_same_7 (by rw [hR]; exact ⟨Nat.le_of_ble_eq_true rfl, Nat.le_of_ble_eq_true rfl⟩))) (fun r3 hr3 => ?_)
  subst hr3
  refine lv_if_eq (tgt := 21) hx hb dM_same_10 (by decide) (fun c1 => ?_) (fun c1 => ?_)
  · have hq1 := bI_eq.mp c1
    refine lv_aload_n hx hb dM_same_21 rfl (lv_at hl 0 rfl) ?_
    refine lv_iconst (v := nI 1) hx hb dM_same_22 (by decide) ?_
    refine pw_call (F := mW mo sa ea) (va_runV (As := [.int (nI 1)]) (rest := []) ⟨hx, hb, hml, hown, htA⟩ (m_raise l G cA mo (mF (nI 0) ao af n lw hg sa ea) (nI 1)) (cwV 1 htA (gd_V wd480 wd482 wd16 wd28 wd483) rfl rfl rfl (by decide +kernel) (by rw [hR]; exact ⟨Nat.le_of_ble_eq_true rfl, Nat.le_of_ble_eq_true rfl⟩)) (pw_V (ci := 4) (q := (RM, TM, 8)) hKN hob rfl ⟨hob, Nat.zero_lt_succ _⟩) rfl rfl hl.1 rfl (lv_room (Nat.le_of_ble_eq_true rfl)) dM_same_23 (by rw [hR]; exact ⟨Nat.le_of_ble_eq_true rfl, Nat.le_of_ble_eq_true rfl⟩)) hL (fun q h => Or.inl h) (fun v9 st9 t9 lc5 h0 ha9 hL hq9 => ?_)
    obtain ⟨hv9, hob1, hz1, hk1⟩ := hq9
    cases hv9
    rw [h0] at hz1 hk1
    generalize t9.heap = H4 at hob1 hz1 hk1 ⊢
    have hob : ob G 4 mo (mF (nI 1) ao af n lw hg sa ea) H4 := hob1
    have hal := al_k hal (hk1 ao hA.1)
    have hab := ai_k hab (hk1 af hA.2.1)
    have hsl := ai_k hsl (hk1 sa hA.2.2.1)
    have hel := ai_k hel (hk1 ea hA.2.2.2.1)
    have hk : ∀ q, q ≠ mo → q ≠ sa → q ≠ ea → H4[q]? = s.heap[q]? := fun q h1 h2 h3 => (hk1 q h1).trans (hk q h1 h2 h3)
    have hz := hz1.trans hz
    rw [hQ]
    exact W.iret (v := 0) hx hb hrt (fun t ht hW => ⟨_, (nI 1), rfl, (Or.inl ⟨Or.inl hq1, rfl⟩), ⟨lw, hg, fS, fE, by rw [ht]; exact ⟨hob, hal, hab, hsl, hel⟩⟩, by rw [ht]; exact hz, by rw [ht]; exact hk⟩) hL dM_same_26
  · have hq1 := bI_ne.mp c1
    refine lv_aload_n hx hb dM_same_13 rfl (lv_at hl 0 rfl) ?_
    refine lv_iload_n hx hb dM_same_14 rfl (lv_at hl 2 rfl) ?_
    refine vp_callSi (va_Run.run (va_runV (As := [.int v2]) (rest := []) ⟨hx, hb, hml, hown, htA⟩ (m_made l G cA mo n (mF (nI 0) ao af n lw hg sa ea) v2 rfl (by omega)) (cwV 1 htA (gd_V wd476 wd478 wd15 wd28 wd479) rfl rfl rfl (by decide +kernel) (by rw [hR]; exact ⟨Nat.le_of_ble_eq_true rfl, Nat.le_of_ble_eq_true rfl⟩)) (pw_V (ci := 4) (q := (RM, TM, 8)) hKN hob rfl hob) rfl rfl hl.1 rfl (lv_room (Nat.le_of_ble_eq_true rfl)) dM_same_15 (by rw [hR]; exact ⟨Nat.le_of_ble_eq_true rfl, Nat.le_of_ble_eq_true rfl⟩))) (fun r4 hr4 => ?_)
    subst hr4
    refine lv_if_ne (tgt := 27) hx hb dM_same_18 (by decide) (fun c2 => ?_) (fun c2 => ?_)
    · obtain ⟨b, hb0, rfl⟩ := inb_t (by omega) (bI_ne.mp c2)
      obtain ⟨a, ha, rfl⟩ := inb_t (by omega) hq1
      refine lv_aload_n hx hb dM_same_27 rfl (lv_at hl 0 rfl) ?_
      refine lv_iload_n hx hb dM_same_28 rfl (lv_at hl 1 rfl) ?_
      refine lv_iload_n hx hb dM_same_29 rfl (lv_at hl 2 rfl) ?_
      refine vp_callSi (va_Run.run (va_runV (As := [.int (nI a), .int (nI b)]) (rest := []) ⟨hx, hb, hml, hown, htA⟩ (m_apart l G cA mo ao (mF (nI 0) ao af n lw hg sa ea) fo a b rfl (by omega) (by omega)) (cwV 2 htA (gd_V wd526 wd528 wd21 wd28 wd529) rfl rfl rfl (by decide +kernel) (by rw [hR]; exact ⟨Nat.le_of_ble_eq_true rfl, Nat.le_of_ble_eq_true rfl⟩)) (pw_V (ci := 4) (q := (RM, TM, 8)) hKN hob rfl ⟨hob, hal⟩) rfl rfl hl.1 rfl (lv_room (Nat.le_of_ble_eq_true rfl)) dM_same_30 (by rw [hR]; exact ⟨Nat.le_of_ble_eq_true rfl, Nat.le_of_ble_eq_true rfl⟩))) (fun r5 hr5 => ?_)
      obtain ⟨k, hap, rfl⟩ := hr5
      have hk64 := hap.1
      refine lv_bipush (v := nI 64) hx hb dM_same_33 (by decide) ?_
      refine lv_icmp_ne (tgt := 42) hx hb dM_same_35 (by decide) (fun c3 => ?_) (fun c3 => ?_)
      · have hne : ¬ k = 64 := fun q => c3 (by rw [q])
        refine lv_iconst (v := nI 0) hx hb dM_same_42 (by decide) ?_
        rw [hQ]
        exact W.iret (v := nI 0) hx hb hrt (fun t ht hW => ⟨_, (nI 0), rfl, (Or.inr ⟨a, b, ha, hb0, rfl, rfl, rfl, k, hap, Or.inr ⟨hne, rfl⟩⟩), ⟨lw, hg, fS, fE, by rw [ht]; exact ⟨hob, hal, hab, hsl, hel⟩⟩, by rw [ht]; exact hz, by rw [ht]; exact hk⟩) hL dM_same_43
      · have he : k = 64 := (nI_eq (by omega) (by decide)).mp c3
        refine lv_iconst (v := nI 1) hx hb dM_same_38 (by decide) ?_
        refine lv_goto (tgt := 43) hx hb dM_same_39 (by decide) ?_
        rw [hQ]
        exact W.iret (v := nI 1) hx hb hrt (fun t ht hW => ⟨_, (nI 0), rfl, (Or.inr ⟨a, b, ha, hb0, rfl, rfl, rfl, k, hap, Or.inl ⟨he, rfl⟩⟩), ⟨lw, hg, fS, fE, by rw [ht]; exact ⟨hob, hal, hab, hsl, hel⟩⟩, by rw [ht]; exact hz, by rw [ht]; exact hk⟩) hL dM_same_43
    · have hq2 := bI_eq.mp c2
      refine lv_aload_n hx hb dM_same_21 rfl (lv_at hl 0 rfl) ?_
      refine lv_iconst (v := nI 1) hx hb dM_same_22 (by decide) ?_
      refine pw_call (F := mW mo sa ea) (va_runV (As := [.int (nI 1)]) (rest := []) ⟨hx, hb, hml, hown, htA⟩ (m_raise l G cA mo (mF (nI 0) ao af n lw hg sa ea) (nI 1)) (cwV 1 htA (gd_V wd480 wd482 wd16 wd28 wd483) rfl rfl rfl (by decide +kernel) (by rw [hR]; exact ⟨Nat.le_of_ble_eq_true rfl, Nat.le_of_ble_eq_true rfl⟩)) (pw_V (ci := 4) (q := (RM, TM, 8)) hKN hob rfl ⟨hob, Nat.zero_lt_succ _⟩) rfl rfl hl.1 rfl (lv_room (Nat.le_of_ble_eq_true rfl)) dM_same_23 (by rw [hR]; exact ⟨Nat.le_of_ble_eq_true rfl, Nat.le_of_ble_eq_true rfl⟩)) hL (fun q h => Or.inl h) (fun v9 st9 t9 lc6 h0 ha9 hL hq9 => ?_)
      obtain ⟨hv9, hob1, hz1, hk1⟩ := hq9
      cases hv9
      rw [h0] at hz1 hk1
      generalize t9.heap = H5 at hob1 hz1 hk1 ⊢
      have hob : ob G 4 mo (mF (nI 1) ao af n lw hg sa ea) H5 := hob1
      have hal := al_k hal (hk1 ao hA.1)
      have hab := ai_k hab (hk1 af hA.2.1)
      have hsl := ai_k hsl (hk1 sa hA.2.2.1)
      have hel := ai_k hel (hk1 ea hA.2.2.2.1)
      have hk : ∀ q, q ≠ mo → q ≠ sa → q ≠ ea → H5[q]? = s.heap[q]? := fun q h1 h2 h3 => (hk1 q h1).trans (hk q h1 h2 h3)
      have hz := hz1.trans hz
      rw [hQ]
      exact W.iret (v := 0) hx hb hrt (fun t ht hW => ⟨_, (nI 1), rfl, (Or.inl ⟨Or.inr hq2, rfl⟩), ⟨lw, hg, fS, fE, by rw [ht]; exact ⟨hob, hal, hab, hsl, hel⟩⟩, by rw [ht]; exact hz, by rw [ht]; exact hk⟩) hL dM_same_26

set_option maxRecDepth 100000 in
set_option maxHeartbeats 4000000 in
theorem m_differ (l : Launch) (G : va_G) (cA : Nat → ClassId) (mo ao af sa ea n : Nat) (fo : Nat → Int64) (fb : Nat → Int32) (v v2 : Int32) : Met l yM_differ wsM_differ ({ frames := 2, cells := 0, slots := 0, locals := 43 }) (PH G cA [.ref mo, .int v, .int v2] (fun H => (mA mo ao af sa ea ∧ n ≤ 50 ∧ ∃ th, mV G cA mo ao af sa ea n fo fb th H))) (mI G cA mo ao af sa ea n fo fb (fun r th => ((inb n v = false ∨ inb n v2 = false) ∧ th = nI 1) ∨ (∃ a b, a < n ∧ b < n ∧ v = nI a ∧ v2 = nI b ∧  ∃ k, apR (fun k => fo (64 * a + k)) (fun k => fo (64 * b + k)) k ∧ ((k = 64 ∧ th = nI 2) ∨ (¬ k = 64 ∧ th = nI 0 ∧ r = nI k))))) 0 0 (mW mo sa ea) := by
  refine Met.ofW (cc := cM_differ) (maxL := 4) (ret := (some .int)) (by decide) rfl ?_
  intro p e s m args below meth c s₁ B hml hv
  obtain ⟨hav, hKN, hA, hn, th0, lw, hg, fS, fE, hob, hal, hab, hsl, hel⟩ := hv
  have hK := hKN.1
  have hx := B.exec
  have hb := B.bytes
  have hrt := B.returns
  have htA : ∀ w ∈ ALL, w.before args s = true := fun w h => atoms_spec (ws := wsM_differ) B.pre w (List.mem_cons_of_mem _ h)
  have hown : s.vm.findClass RM = some m.cls := findClass_of_methodNamed B.named
  have hlocks := B.notSynchronized
  refine pw_nm (fun R Q hR hQ => ?_)
  refine pw_entry (vs := [.ref mo, .int v, .int v2]) hav (Nat.le_of_ble_eq_true rfl) (fun ls hl => ?_)
  have hl : lv_has ls 4 [(0, .ref mo), (1, .int v), (2, .int v2)] := hl
  have hz : s.heap.size = s.heap.size := rfl
  have hk : ∀ q, q ≠ mo → q ≠ sa → q ≠ ea → s.heap[q]? = s.heap[q]? := fun _ _ _ _ => rfl
  have hL : ∀ z ∈ ([] : List Loc), mW mo sa ea z.base := fun _ h => by cases h
  refine lv_aload_n hx hb dM_differ_0 rfl (lv_at hl 0 rfl) ?_
  refine lv_iconst (v := nI 0) hx hb dM_differ_1 (by decide) ?_
  refine pw_put (ci := 4) (C := RM) (T := TM) (N := 8) (ty := .int) (F := mW mo sa ea) hx hb htA inM tyM tyM_ok nmM hown hK hob rfl 0 (by decide) (htA _ wd435) (fun _ h9 => h9) rfl (by decide +kernel) rfl rfl (Nat.le_of_ble_eq_true rfl) hL (Or.inl rfl) dM_differ_2 (fun H1 lc2 hob1 hz1 hk1 hL => ?_)
  have hob : ob G 4 mo (mF (nI 0) ao af n lw hg sa ea) H1 := hob1
  have hal := al_k hal (hk1 ao hA.1)
  have hab := ai_k hab (hk1 af hA.2.1)
  have hsl := ai_k hsl (hk1 sa hA.2.2.1)
  have hel := ai_k hel (hk1 ea hA.2.2.2.1)
  have hk : ∀ q, q ≠ mo → q ≠ sa → q ≠ ea → H1[q]? = s.heap[q]? := fun q h1 h2 h3 => (hk1 q h1).trans (hk q h1 h2 h3)
  have hz := hz1.trans hz
  refine lv_aload_n hx hb dM_differ_5 rfl (lv_at hl 0 rfl) ?_
  refine lv_iload_n hx hb dM_differ_6 rfl (lv_at hl 1 rfl) ?_
  refine vp_callSi (va_Run.run (va_runV (As := [.int v]) (rest := []) ⟨hx, hb, hml, hown, htA⟩ (m_made l G cA mo n (mF (nI 0) ao af n lw hg sa ea) v rfl (by omega)) (cwV 1 htA (gd_V wd476 wd478 wd15 wd28 wd479) rfl rfl rfl (by decide +kernel) (by rw [hR]; exact ⟨Nat.le_of_ble_eq_true rfl, Nat.le_of_ble_eq_true rfl⟩)) (pw_V (ci := 4) (q := (RM, TM, 8)) hKN hob rfl hob) rfl rfl hl.1 rfl (lv_room (Nat.le_of_ble_eq_true rfl)) dM_differ_7 (by rw [hR]; exact ⟨Nat.le_of_ble_eq_true rfl, Nat.le_of_ble_eq_true rfl⟩))) (fun r3 hr3 => ?_)
  subst hr3
  refine lv_if_eq (tgt := 21) hx hb dM_differ_10 (by decide) (fun c1 => ?_) (fun c1 => ?_)
  · have hq1 := bI_eq.mp c1
    refine lv_aload_n hx hb dM_differ_21 rfl (lv_at hl 0 rfl) ?_
    refine lv_iconst (v := nI 1) hx hb dM_differ_22 (by decide) ?_
    refine pw_call (F := mW mo sa ea) (va_runV (As := [.int (nI 1)]) (rest := []) ⟨hx, hb, hml, hown, htA⟩ (m_raise l G cA mo (mF (nI 0) ao af n lw hg sa ea) (nI 1)) (cwV 1 htA (gd_V wd480 wd482 wd16 wd28 wd483) rfl rfl rfl (by decide +kernel) (by rw [hR]; exact ⟨Nat.le_of_ble_eq_true rfl, Nat.le_of_ble_eq_true rfl⟩)) (pw_V (ci := 4) (q := (RM, TM, 8)) hKN hob rfl ⟨hob, Nat.zero_lt_succ _⟩) rfl rfl hl.1 rfl (lv_room (Nat.le_of_ble_eq_true rfl)) dM_differ_23 (by rw [hR]; exact ⟨Nat.le_of_ble_eq_true rfl, Nat.le_of_ble_eq_true rfl⟩)) hL (fun q h => Or.inl h) (fun v9 st9 t9 lc5 h0 ha9 hL hq9 => ?_)
    obtain ⟨hv9, hob1, hz1, hk1⟩ := hq9
    cases hv9
    rw [h0] at hz1 hk1
    generalize t9.heap = H4 at hob1 hz1 hk1 ⊢
    have hob : ob G 4 mo (mF (nI 1) ao af n lw hg sa ea) H4 := hob1
    have hal := al_k hal (hk1 ao hA.1)
    have hab := ai_k hab (hk1 af hA.2.1)
    have hsl := ai_k hsl (hk1 sa hA.2.2.1)
    have hel := ai_k hel (hk1 ea hA.2.2.2.1)
    have hk : ∀ q, q ≠ mo → q ≠ sa → q ≠ ea → H4[q]? = s.heap[q]? := fun q h1 h2 h3 => (hk1 q h1).trans (hk q h1 h2 h3)
    have hz := hz1.trans hz
    rw [hQ]
    exact W.iret (v := 0) hx hb hrt (fun t ht hW => ⟨_, (nI 1), rfl, (Or.inl ⟨Or.inl hq1, rfl⟩), ⟨lw, hg, fS, fE, by rw [ht]; exact ⟨hob, hal, hab, hsl, hel⟩⟩, by rw [ht]; exact hz, by rw [ht]; exact hk⟩) hL dM_differ_26
  · have hq1 := bI_ne.mp c1
    refine lv_aload_n hx hb dM_differ_13 rfl (lv_at hl 0 rfl) ?_
    refine lv_iload_n hx hb dM_differ_14 rfl (lv_at hl 2 rfl) ?_
    refine vp_callSi (va_Run.run (va_runV (As := [.int v2]) (rest := []) ⟨hx, hb, hml, hown, htA⟩ (m_made l G cA mo n (mF (nI 0) ao af n lw hg sa ea) v2 rfl (by omega)) (cwV 1 htA (gd_V wd476 wd478 wd15 wd28 wd479) rfl rfl rfl (by decide +kernel) (by rw [hR]; exact ⟨Nat.le_of_ble_eq_true rfl, Nat.le_of_ble_eq_true rfl⟩)) (pw_V (ci := 4) (q := (RM, TM, 8)) hKN hob rfl hob) rfl rfl hl.1 rfl (lv_room (Nat.le_of_ble_eq_true rfl)) dM_differ_15 (by rw [hR]; exact ⟨Nat.le_of_ble_eq_true rfl, Nat.le_of_ble_eq_true rfl⟩))) (fun r4 hr4 => ?_)
    subst hr4
    refine lv_if_ne (tgt := 27) hx hb dM_differ_18 (by decide) (fun c2 => ?_) (fun c2 => ?_)
    · obtain ⟨b, hb0, rfl⟩ := inb_t (by omega) (bI_ne.mp c2)
      obtain ⟨a, ha, rfl⟩ := inb_t (by omega) hq1
      refine lv_aload_n hx hb dM_differ_27 rfl (lv_at hl 0 rfl) ?_
      refine lv_iload_n hx hb dM_differ_28 rfl (lv_at hl 1 rfl) ?_
      refine lv_iload_n hx hb dM_differ_29 rfl (lv_at hl 2 rfl) ?_
      refine vp_callSi (va_Run.run (va_runV (As := [.int (nI a), .int (nI b)]) (rest := []) ⟨hx, hb, hml, hown, htA⟩ (m_apart l G cA mo ao (mF (nI 0) ao af n lw hg sa ea) fo a b rfl (by omega) (by omega)) (cwV 2 htA (gd_V wd526 wd528 wd21 wd28 wd529) rfl rfl rfl (by decide +kernel) (by rw [hR]; exact ⟨Nat.le_of_ble_eq_true rfl, Nat.le_of_ble_eq_true rfl⟩)) (pw_V (ci := 4) (q := (RM, TM, 8)) hKN hob rfl ⟨hob, hal⟩) rfl rfl hl.1 rfl (lv_room (Nat.le_of_ble_eq_true rfl)) dM_differ_30 (by rw [hR]; exact ⟨Nat.le_of_ble_eq_true rfl, Nat.le_of_ble_eq_true rfl⟩))) (fun r5 hr5 => ?_)
      obtain ⟨k, hap, rfl⟩ := hr5
      have hk64 := hap.1
      refine lv_istore_n (lv' := [(3, .int (nI k)), (0, .ref mo), (1, .int (nI a)), (2, .int (nI b))]) hx hb dM_differ_33 rfl hl (by decide) rfl (fun ls hl => ?_)
      refine lv_iload_n hx hb dM_differ_34 rfl (lv_at hl 0 rfl) ?_
      refine lv_bipush (v := nI 64) hx hb dM_differ_35 (by decide) ?_
      refine lv_icmp_ne (tgt := 48) hx hb dM_differ_37 (by decide) (fun c3 => ?_) (fun c3 => ?_)
      · have hne : ¬ k = 64 := fun q => c3 (by rw [q])
        refine lv_iload_n hx hb dM_differ_48 rfl (lv_at hl 0 rfl) ?_
        rw [hQ]
        exact W.iret (v := nI k) hx hb hrt (fun t ht hW => ⟨_, (nI 0), rfl, (Or.inr ⟨a, b, ha, hb0, rfl, rfl, k, hap, Or.inr ⟨hne, rfl, rfl⟩⟩), ⟨lw, hg, fS, fE, by rw [ht]; exact ⟨hob, hal, hab, hsl, hel⟩⟩, by rw [ht]; exact hz, by rw [ht]; exact hk⟩) hL dM_differ_49
      · have he : k = 64 := (nI_eq (by omega) (by decide)).mp c3
        refine lv_aload_n hx hb dM_differ_40 rfl (lv_at hl 1 rfl) ?_
        refine lv_iconst (v := nI 2) hx hb dM_differ_41 (by decide) ?_
        refine pw_call (F := mW mo sa ea) (va_runV (As := [.int (nI 2)]) (rest := []) ⟨hx, hb, hml, hown, htA⟩ (m_raise l G cA mo (mF (nI 0) ao af n lw hg sa ea) (nI 2)) (cwV 1 htA (gd_V wd480 wd482 wd16 wd28 wd483) rfl rfl rfl (by decide +kernel) (by rw [hR]; exact ⟨Nat.le_of_ble_eq_true rfl, Nat.le_of_ble_eq_true rfl⟩)) (pw_V (ci := 4) (q := (RM, TM, 8)) hKN hob rfl ⟨hob, Nat.zero_lt_succ _⟩) rfl rfl hl.1 rfl (lv_room (Nat.le_of_ble_eq_true rfl)) dM_differ_42 (by rw [hR]; exact ⟨Nat.le_of_ble_eq_true rfl, Nat.le_of_ble_eq_true rfl⟩)) hL (fun q h => Or.inl h) (fun v9 st9 t9 lc7 h0 ha9 hL hq9 => ?_)
        obtain ⟨hv9, hob1, hz1, hk1⟩ := hq9
        cases hv9
        rw [h0] at hz1 hk1
        generalize t9.heap = H6 at hob1 hz1 hk1 ⊢
        have hob : ob G 4 mo (mF (nI 2) ao af n lw hg sa ea) H6 := hob1
        have hal := al_k hal (hk1 ao hA.1)
        have hab := ai_k hab (hk1 af hA.2.1)
        have hsl := ai_k hsl (hk1 sa hA.2.2.1)
        have hel := ai_k hel (hk1 ea hA.2.2.2.1)
        have hk : ∀ q, q ≠ mo → q ≠ sa → q ≠ ea → H6[q]? = s.heap[q]? := fun q h1 h2 h3 => (hk1 q h1).trans (hk q h1 h2 h3)
        have hz := hz1.trans hz
        refine lv_goto (tgt := 49) hx hb dM_differ_45 (by decide) ?_
        rw [hQ]
        exact W.iret (v := 0) hx hb hrt (fun t ht hW => ⟨_, (nI 2), rfl, (Or.inr ⟨a, b, ha, hb0, rfl, rfl, k, hap, Or.inl ⟨he, rfl⟩⟩), ⟨lw, hg, fS, fE, by rw [ht]; exact ⟨hob, hal, hab, hsl, hel⟩⟩, by rw [ht]; exact hz, by rw [ht]; exact hk⟩) hL dM_differ_49
    · have hq2 := bI_eq.mp c2
      refine lv_aload_n hx hb dM_differ_21 rfl (lv_at hl 0 rfl) ?_
      refine lv_iconst (v := nI 1) hx hb dM_differ_22 (by decide) ?_
      refine pw_call (F := mW mo sa ea) (va_runV (As := [.int (nI 1)]) (rest := []) ⟨hx, hb, hml, hown, htA⟩ (m_raise l G cA mo (mF (nI 0) ao af n lw hg sa ea) (nI 1)) (cwV 1 htA (gd_V wd480 wd482 wd16 wd28 wd483) rfl rfl rfl (by decide +kernel) (by rw [hR]; exact ⟨Nat.le_of_ble_eq_true rfl, Nat.le_of_ble_eq_true rfl⟩)) (pw_V (ci := 4) (q := (RM, TM, 8)) hKN hob rfl ⟨hob, Nat.zero_lt_succ _⟩) rfl rfl hl.1 rfl (lv_room (Nat.le_of_ble_eq_true rfl)) dM_differ_23 (by rw [hR]; exact ⟨Nat.le_of_ble_eq_true rfl, Nat.le_of_ble_eq_true rfl⟩)) hL (fun q h => Or.inl h) (fun v9 st9 t9 lc6 h0 ha9 hL hq9 => ?_)
      obtain ⟨hv9, hob1, hz1, hk1⟩ := hq9
      cases hv9
      rw [h0] at hz1 hk1
      generalize t9.heap = H5 at hob1 hz1 hk1 ⊢
      have hob : ob G 4 mo (mF (nI 1) ao af n lw hg sa ea) H5 := hob1
      have hal := al_k hal (hk1 ao hA.1)
      have hab := ai_k hab (hk1 af hA.2.1)
      have hsl := ai_k hsl (hk1 sa hA.2.2.1)
      have hel := ai_k hel (hk1 ea hA.2.2.2.1)
      have hk : ∀ q, q ≠ mo → q ≠ sa → q ≠ ea → H5[q]? = s.heap[q]? := fun q h1 h2 h3 => (hk1 q h1).trans (hk q h1 h2 h3)
      have hz := hz1.trans hz
      rw [hQ]
      exact W.iret (v := 0) hx hb hrt (fun t ht hW => ⟨_, (nI 1), rfl, (Or.inl ⟨Or.inr hq2, rfl⟩), ⟨lw, hg, fS, fE, by rw [ht]; exact ⟨hob, hal, hab, hsl, hel⟩⟩, by rw [ht]; exact hz, by rw [ht]; exact hk⟩) hL dM_differ_26

set_option maxRecDepth 100000 in
set_option maxHeartbeats 4000000 in
theorem m_covers (l : Launch) (G : va_G) (cA : Nat → ClassId) (mo ao af sa ea n : Nat) (fo : Nat → Int64) (fb : Nat → Int32) (v v2 : Int32) : Met l yM_covers wsM_covers ({ frames := 2, cells := 0, slots := 0, locals := 43 }) (PH G cA [.ref mo, .int v, .int v2] (fun H => (mA mo ao af sa ea ∧ n ≤ 50 ∧ ∃ th, mV G cA mo ao af sa ea n fo fb th H))) (mI G cA mo ao af sa ea n fo fb (fun r th => ((inb n v = false ∨ inb n v2 = false) ∧ th = nI 1) ∨ (∃ a b, a < n ∧ b < n ∧ v = nI a ∧ v2 = nI b ∧  th = nI 0 ∧ (((∀ k, k < 64 → (fo (64 * b + k) &&& (fo (64 * a + k) ^^^ (-1))) = 0) ∧ r = 1) ∨ ((∃ k, k < 64 ∧ ¬ (fo (64 * b + k) &&& (fo (64 * a + k) ^^^ (-1))) = 0) ∧ r = 0))))) 0 0 (mW mo sa ea) := by
  refine Met.ofW (cc := cM_covers) (maxL := 4) (ret := (some .int)) (by decide) rfl ?_
  intro p e s m args below meth c s₁ B hml hv
  obtain ⟨hav, hKN, hA, hn, th0, lw, hg, fS, fE, hob, hal, hab, hsl, hel⟩ := hv
  have hK := hKN.1
  have hx := B.exec
  have hb := B.bytes
  have hrt := B.returns
  have htA : ∀ w ∈ ALL, w.before args s = true := fun w h => atoms_spec (ws := wsM_covers) B.pre w (List.mem_cons_of_mem _ h)
  have hown : s.vm.findClass RM = some m.cls := findClass_of_methodNamed B.named
  have hlocks := B.notSynchronized
  refine pw_nm (fun R Q hR hQ => ?_)
  refine pw_entry (vs := [.ref mo, .int v, .int v2]) hav (Nat.le_of_ble_eq_true rfl) (fun ls hl => ?_)
  have hl : lv_has ls 4 [(0, .ref mo), (1, .int v), (2, .int v2)] := hl
  have hz : s.heap.size = s.heap.size := rfl
  have hk : ∀ q, q ≠ mo → q ≠ sa → q ≠ ea → s.heap[q]? = s.heap[q]? := fun _ _ _ _ => rfl
  have hL : ∀ z ∈ ([] : List Loc), mW mo sa ea z.base := fun _ h => by cases h
  refine lv_aload_n hx hb dM_covers_0 rfl (lv_at hl 0 rfl) ?_
  refine lv_iconst (v := nI 0) hx hb dM_covers_1 (by decide) ?_
  refine pw_put (ci := 4) (C := RM) (T := TM) (N := 8) (ty := .int) (F := mW mo sa ea) hx hb htA inM tyM tyM_ok nmM hown hK hob rfl 0 (by decide) (htA _ wd435) (fun _ h9 => h9) rfl (by decide +kernel) rfl rfl (Nat.le_of_ble_eq_true rfl) hL (Or.inl rfl) dM_covers_2 (fun H1 lc2 hob1 hz1 hk1 hL => ?_)
  have hob : ob G 4 mo (mF (nI 0) ao af n lw hg sa ea) H1 := hob1
  have hal := al_k hal (hk1 ao hA.1)
  have hab := ai_k hab (hk1 af hA.2.1)
  have hsl := ai_k hsl (hk1 sa hA.2.2.1)
  have hel := ai_k hel (hk1 ea hA.2.2.2.1)
  have hk : ∀ q, q ≠ mo → q ≠ sa → q ≠ ea → H1[q]? = s.heap[q]? := fun q h1 h2 h3 => (hk1 q h1).trans (hk q h1 h2 h3)
  have hz := hz1.trans hz
  refine lv_aload_n hx hb dM_covers_5 rfl (lv_at hl 0 rfl) ?_
  refine lv_iload_n hx hb dM_covers_6 rfl (lv_at hl 1 rfl) ?_
  refine vp_callSi (va_Run.run (va_runV (As := [.int v]) (rest := []) ⟨hx, hb, hml, hown, htA⟩ (m_made l G cA mo n (mF (nI 0) ao af n lw hg sa ea) v rfl (by omega)) (cwV 1 htA (gd_V wd476 wd478 wd15 wd28 wd479) rfl rfl rfl (by decide +kernel) (by rw [hR]; exact ⟨Nat.le_of_ble_eq_true rfl, Nat.le_of_ble_eq_true rfl⟩)) (pw_V (ci := 4) (q := (RM, TM, 8)) hKN hob rfl hob) rfl rfl hl.1 rfl (lv_room (Nat.le_of_ble_eq_true rfl)) dM_covers_7 (by rw [hR]; exact ⟨Nat.le_of_ble_eq_true rfl, Nat.le_of_ble_eq_true rfl⟩))) (fun r3 hr3 => ?_)
  subst hr3
  refine lv_if_eq (tgt := 21) hx hb dM_covers_10 (by decide) (fun c1 => ?_) (fun c1 => ?_)
  · have hq1 := bI_eq.mp c1
    refine lv_aload_n hx hb dM_covers_21 rfl (lv_at hl 0 rfl) ?_
    refine lv_iconst (v := nI 1) hx hb dM_covers_22 (by decide) ?_
    refine pw_call (F := mW mo sa ea) (va_runV (As := [.int (nI 1)]) (rest := []) ⟨hx, hb, hml, hown, htA⟩ (m_raise l G cA mo (mF (nI 0) ao af n lw hg sa ea) (nI 1)) (cwV 1 htA (gd_V wd480 wd482 wd16 wd28 wd483) rfl rfl rfl (by decide +kernel) (by rw [hR]; exact ⟨Nat.le_of_ble_eq_true rfl, Nat.le_of_ble_eq_true rfl⟩)) (pw_V (ci := 4) (q := (RM, TM, 8)) hKN hob rfl ⟨hob, Nat.zero_lt_succ _⟩) rfl rfl hl.1 rfl (lv_room (Nat.le_of_ble_eq_true rfl)) dM_covers_23 (by rw [hR]; exact ⟨Nat.le_of_ble_eq_true rfl, Nat.le_of_ble_eq_true rfl⟩)) hL (fun q h => Or.inl h) (fun v9 st9 t9 lc5 h0 ha9 hL hq9 => ?_)
    obtain ⟨hv9, hob1, hz1, hk1⟩ := hq9
    cases hv9
    rw [h0] at hz1 hk1
    generalize t9.heap = H4 at hob1 hz1 hk1 ⊢
    have hob : ob G 4 mo (mF (nI 1) ao af n lw hg sa ea) H4 := hob1
    have hal := al_k hal (hk1 ao hA.1)
    have hab := ai_k hab (hk1 af hA.2.1)
    have hsl := ai_k hsl (hk1 sa hA.2.2.1)
    have hel := ai_k hel (hk1 ea hA.2.2.2.1)
    have hk : ∀ q, q ≠ mo → q ≠ sa → q ≠ ea → H4[q]? = s.heap[q]? := fun q h1 h2 h3 => (hk1 q h1).trans (hk q h1 h2 h3)
    have hz := hz1.trans hz
    rw [hQ]
    exact W.iret (v := 0) hx hb hrt (fun t ht hW => ⟨_, (nI 1), rfl, (Or.inl ⟨Or.inl hq1, rfl⟩), ⟨lw, hg, fS, fE, by rw [ht]; exact ⟨hob, hal, hab, hsl, hel⟩⟩, by rw [ht]; exact hz, by rw [ht]; exact hk⟩) hL dM_covers_26
  · have hq1 := bI_ne.mp c1
    refine lv_aload_n hx hb dM_covers_13 rfl (lv_at hl 0 rfl) ?_
    refine lv_iload_n hx hb dM_covers_14 rfl (lv_at hl 2 rfl) ?_
    refine vp_callSi (va_Run.run (va_runV (As := [.int v2]) (rest := []) ⟨hx, hb, hml, hown, htA⟩ (m_made l G cA mo n (mF (nI 0) ao af n lw hg sa ea) v2 rfl (by omega)) (cwV 1 htA (gd_V wd476 wd478 wd15 wd28 wd479) rfl rfl rfl (by decide +kernel) (by rw [hR]; exact ⟨Nat.le_of_ble_eq_true rfl, Nat.le_of_ble_eq_true rfl⟩)) (pw_V (ci := 4) (q := (RM, TM, 8)) hKN hob rfl hob) rfl rfl hl.1 rfl (lv_room (Nat.le_of_ble_eq_true rfl)) dM_covers_15 (by rw [hR]; exact ⟨Nat.le_of_ble_eq_true rfl, Nat.le_of_ble_eq_true rfl⟩))) (fun r4 hr4 => ?_)
    subst hr4
    refine lv_if_ne (tgt := 27) hx hb dM_covers_18 (by decide) (fun c2 => ?_) (fun c2 => ?_)
    · obtain ⟨b, hb0, rfl⟩ := inb_t (by omega) (bI_ne.mp c2)
      obtain ⟨a, ha, rfl⟩ := inb_t (by omega) hq1
      refine lv_iconst (v := nI 0) hx hb dM_covers_27 (by decide) ?_
      refine lv_istore_n (lv' := [(3, .int (nI 0)), (0, .ref mo), (1, .int (nI a)), (2, .int (nI b))]) hx hb dM_covers_28 rfl hl (by decide) rfl (fun ls hl => ?_)
      have lp : ∀ (k i : Nat), i + k = 64 → (∀ k, k < i → (fo (64 * b + k) &&& (fo (64 * a + k) ^^^ (-1))) = 0) → ∀ ls : Array Slot, lv_has ls 4 [(0, .ref mo), (1, .int (nI a)), (2, .int (nI b)), (3, .int (nI i))] → W p l e R s m args below meth c H1 lc2 0 0 Q (F0 m 29 ls []) := by
        intro k
        induction k with
        | zero =>
          intro i hik hinv ls hl
          have hi : i = 64 := by omega
          subst hi
          refine lv_iload_n hx hb dM_covers_29 rfl (lv_at hl 3 rfl) ?_
          refine lv_bipush (v := nI 64) hx hb dM_covers_30 (by decide) ?_
          refine lv_icmp_ge (tgt := 75) hx hb dM_covers_32 (by decide) (fun _ => ?_) (fun c9 => absurd (Int32.le_refl _) c9)
          refine lv_iconst (v := nI 1) hx hb dM_covers_75 (by decide) ?_
          rw [hQ]
          exact W.iret (v := nI 1) hx hb hrt (fun t ht hW => ⟨_, (nI 0), rfl, (Or.inr ⟨a, b, ha, hb0, rfl, rfl, rfl, Or.inl ⟨hinv, rfl⟩⟩), ⟨lw, hg, fS, fE, by rw [ht]; exact ⟨hob, hal, hab, hsl, hel⟩⟩, by rw [ht]; exact hz, by rw [ht]; exact hk⟩) hL dM_covers_76
        | succ k ih =>
          intro i hik hinv ls hl
          have hi : i < 64 := by omega
          refine lv_iload_n hx hb dM_covers_29 rfl (lv_at hl 3 rfl) ?_
          refine lv_bipush (v := nI 64) hx hb dM_covers_30 (by decide) ?_
          refine lv_icmp_ge (tgt := 75) hx hb dM_covers_32 (by decide) (fun c9 => absurd c9 (nI_ge hi (by decide))) (fun _ => ?_)
          refine lv_aload_n hx hb dM_covers_35 rfl (lv_at hl 0 rfl) ?_
          refine va_get (D := G) (ci := 4) (v := .ref ao) (C := RM) (T := TM) (N := 8) hx hb htA inM hown hK (ob_P hob) 0 rfl rfl 1 (by decide) (htA _ wd436) (fun _ h9 => h9) rfl dM_covers_36 ?_
          refine lv_bipush (v := nI 64) hx hb dM_covers_39 (by decide) ?_
          refine lv_iload_n hx hb dM_covers_41 rfl (lv_at hl 2 rfl) ?_
          refine lv_imul hx hb dM_covers_42 ?_
          refine pw_ti (y := nI (64 * b)) (pk_mul _ _) ?_
          refine lv_iload_n hx hb dM_covers_43 rfl (lv_at hl 3 rfl) ?_
          refine lv_iadd hx hb dM_covers_44 ?_
          refine pw_ti (y := nI ((64 * b) + i)) (nI_add _ _) ?_
          refine pw_lald hx hb hK hal 0 rfl (by omega) (by decide) dM_covers_45 ?_
          refine lv_aload_n hx hb dM_covers_46 rfl (lv_at hl 0 rfl) ?_
          refine va_get (D := G) (ci := 4) (v := .ref ao) (C := RM) (T := TM) (N := 8) hx hb htA inM hown hK (ob_P hob) 0 rfl rfl 1 (by decide) (htA _ wd436) (fun _ h9 => h9) rfl dM_covers_47 ?_
          refine lv_bipush (v := nI 64) hx hb dM_covers_50 (by decide) ?_
          refine lv_iload_n hx hb dM_covers_52 rfl (lv_at hl 1 rfl) ?_
          refine lv_imul hx hb dM_covers_53 ?_
          refine pw_ti (y := nI (64 * a)) (pk_mul _ _) ?_
          refine lv_iload_n hx hb dM_covers_54 rfl (lv_at hl 3 rfl) ?_
          refine lv_iadd hx hb dM_covers_55 ?_
          refine pw_ti (y := nI ((64 * a) + i)) (nI_add _ _) ?_
          refine pw_lald hx hb hK hal 0 rfl (by omega) (by decide) dM_covers_56 ?_
          refine lv_ldc2 hx hb hown (htA _ wd534) dM_covers_57 ?_
          refine lv_lxor hx hb dM_covers_60 ?_
          refine lv_land hx hb dM_covers_61 ?_
          refine lv_lconst (v := 0) hx hb dM_covers_62 rfl ?_
          refine W.lcmp hx hb dM_covers_63 ?_
          refine lv_if_eq (tgt := 69) hx hb dM_covers_64 (by decide) (fun c3 => ?_) (fun c3 => ?_)
          · have hq := (cmp0 _ _).mp c3
            refine lv_iinc (v := nI (i + 1)) (lv' := [(3, .int (nI (i + 1))), (0, .ref mo), (1, .int (nI a)), (2, .int (nI b))]) hx hb dM_covers_69 hl (k := 3) rfl (nI_1 i) (by decide) rfl (fun ls hl => ?_)
            refine lv_goto (tgt := 29) hx hb dM_covers_72 (by decide) ?_
            exact ih (i + 1) (by omega) (lt_s hinv hq) ls (lv_sub hl [1, 2, 3, 0] rfl)
          · refine lv_iconst (v := nI 0) hx hb dM_covers_67 (by decide) ?_
            rw [hQ]
            exact W.iret (v := nI 0) hx hb hrt (fun t ht hW => ⟨_, (nI 0), rfl, (Or.inr ⟨a, b, ha, hb0, rfl, rfl, rfl, Or.inr ⟨⟨i, hi, fun q => c3 ((cmp0 _ _).mpr q)⟩, rfl⟩⟩), ⟨lw, hg, fS, fE, by rw [ht]; exact ⟨hob, hal, hab, hsl, hel⟩⟩, by rw [ht]; exact hz, by rw [ht]; exact hk⟩) hL dM_covers_68
      exact lp (64) 0 (by omega) lt_0 ls (lv_sub hl [1, 2, 3, 0] rfl)
    · have hq2 := bI_eq.mp c2
      refine lv_aload_n hx hb dM_covers_21 rfl (lv_at hl 0 rfl) ?_
      refine lv_iconst (v := nI 1) hx hb dM_covers_22 (by decide) ?_
      refine pw_call (F := mW mo sa ea) (va_runV (As := [.int (nI 1)]) (rest := []) ⟨hx, hb, hml, hown, htA⟩ (m_raise l G cA mo (mF (nI 0) ao af n lw hg sa ea) (nI 1)) (cwV 1 htA (gd_V wd480 wd482 wd16 wd28 wd483) rfl rfl rfl (by decide +kernel) (by rw [hR]; exact ⟨Nat.le_of_ble_eq_true rfl, Nat.le_of_ble_eq_true rfl⟩)) (pw_V (ci := 4) (q := (RM, TM, 8)) hKN hob rfl ⟨hob, Nat.zero_lt_succ _⟩) rfl rfl hl.1 rfl (lv_room (Nat.le_of_ble_eq_true rfl)) dM_covers_23 (by rw [hR]; exact ⟨Nat.le_of_ble_eq_true rfl, Nat.le_of_ble_eq_true rfl⟩)) hL (fun q h => Or.inl h) (fun v9 st9 t9 lc6 h0 ha9 hL hq9 => ?_)
      obtain ⟨hv9, hob1, hz1, hk1⟩ := hq9
      cases hv9
      rw [h0] at hz1 hk1
      generalize t9.heap = H5 at hob1 hz1 hk1 ⊢
      have hob : ob G 4 mo (mF (nI 1) ao af n lw hg sa ea) H5 := hob1
      have hal := al_k hal (hk1 ao hA.1)
      have hab := ai_k hab (hk1 af hA.2.1)
      have hsl := ai_k hsl (hk1 sa hA.2.2.1)
      have hel := ai_k hel (hk1 ea hA.2.2.2.1)
      have hk : ∀ q, q ≠ mo → q ≠ sa → q ≠ ea → H5[q]? = s.heap[q]? := fun q h1 h2 h3 => (hk1 q h1).trans (hk q h1 h2 h3)
      have hz := hz1.trans hz
      rw [hQ]
      exact W.iret (v := 0) hx hb hrt (fun t ht hW => ⟨_, (nI 1), rfl, (Or.inl ⟨Or.inr hq2, rfl⟩), ⟨lw, hg, fS, fE, by rw [ht]; exact ⟨hob, hal, hab, hsl, hel⟩⟩, by rw [ht]; exact hz, by rw [ht]; exact hk⟩) hL dM_covers_26

set_option maxRecDepth 100000 in
set_option maxHeartbeats 4000000 in
theorem m_source (l : Launch) (G : va_G) (cA : Nat → ClassId) (mo ao af sa ea n : Nat) (fo : Nat → Int64) (fb : Nat → Int32) (v : Int32) (z : Int64) : Met l yM_source wsM_source ({ frames := 2, cells := 0, slots := 0, locals := 43 }) (PH G cA [.ref mo, .int v, .long z] (fun H => (mA mo ao af sa ea ∧ n ≤ 50 ∧ ∃ th, mV G cA mo ao af sa ea n fo fb th H))) (mL G cA mo ao af sa ea n fo fb (fun r th => (inb n v = false ∧ th = nI 1) ∨ (∃ a, a < n ∧ v = nI a ∧ th = nI 0 ∧ r = src (fun k => fo (64 * a + k)) z 64))) 0 0 (mW mo sa ea) := by
  refine Met.ofW (cc := cM_source) (maxL := 7) (ret := (some .long)) (by decide) rfl ?_
  intro p e s m args below meth c s₁ B hml hv
  obtain ⟨hav, hKN, hA, hn, th0, lw, hg, fS, fE, hob, hal, hab, hsl, hel⟩ := hv
  have hK := hKN.1
  have hx := B.exec
  have hb := B.bytes
  have hrt := B.returns
  have htA : ∀ w ∈ ALL, w.before args s = true := fun w h => atoms_spec (ws := wsM_source) B.pre w (List.mem_cons_of_mem _ h)
  have hown : s.vm.findClass RM = some m.cls := findClass_of_methodNamed B.named
  have hlocks := B.notSynchronized
  refine pw_nm (fun R Q hR hQ => ?_)
  refine pw_entry (vs := [.ref mo, .int v, .long z]) hav (Nat.le_of_ble_eq_true rfl) (fun ls hl => ?_)
  have hl : lv_has ls 7 [(0, .ref mo), (1, .int v), (2, .long z)] := hl
  have hz : s.heap.size = s.heap.size := rfl
  have hk : ∀ q, q ≠ mo → q ≠ sa → q ≠ ea → s.heap[q]? = s.heap[q]? := fun _ _ _ _ => rfl
  have hL : ∀ z ∈ ([] : List Loc), mW mo sa ea z.base := fun _ h => by cases h
  refine lv_aload_n hx hb dM_source_0 rfl (lv_at hl 0 rfl) ?_
  refine lv_iconst (v := nI 0) hx hb dM_source_1 (by decide) ?_
  refine pw_put (ci := 4) (C := RM) (T := TM) (N := 8) (ty := .int) (F := mW mo sa ea) hx hb htA inM tyM tyM_ok nmM hown hK hob rfl 0 (by decide) (htA _ wd435) (fun _ h9 => h9) rfl (by decide +kernel) rfl rfl (Nat.le_of_ble_eq_true rfl) hL (Or.inl rfl) dM_source_2 (fun H1 lc2 hob1 hz1 hk1 hL => ?_)
  have hob : ob G 4 mo (mF (nI 0) ao af n lw hg sa ea) H1 := hob1
  have hal := al_k hal (hk1 ao hA.1)
  have hab := ai_k hab (hk1 af hA.2.1)
  have hsl := ai_k hsl (hk1 sa hA.2.2.1)
  have hel := ai_k hel (hk1 ea hA.2.2.2.1)
  have hk : ∀ q, q ≠ mo → q ≠ sa → q ≠ ea → H1[q]? = s.heap[q]? := fun q h1 h2 h3 => (hk1 q h1).trans (hk q h1 h2 h3)
  have hz := hz1.trans hz
  refine lv_aload_n hx hb dM_source_5 rfl (lv_at hl 0 rfl) ?_
  refine lv_iload_n hx hb dM_source_6 rfl (lv_at hl 1 rfl) ?_
  refine vp_callSi (va_Run.run (va_runV (As := [.int v]) (rest := []) ⟨hx, hb, hml, hown, htA⟩ (m_made l G cA mo n (mF (nI 0) ao af n lw hg sa ea) v rfl (by omega)) (cwV 1 htA (gd_V wd476 wd478 wd15 wd28 wd479) rfl rfl rfl (by decide +kernel) (by rw [hR]; exact ⟨Nat.le_of_ble_eq_true rfl, Nat.le_of_ble_eq_true rfl⟩)) (pw_V (ci := 4) (q := (RM, TM, 8)) hKN hob rfl hob) rfl rfl hl.1 rfl (lv_room (Nat.le_of_ble_eq_true rfl)) dM_source_7 (by rw [hR]; exact ⟨Nat.le_of_ble_eq_true rfl, Nat.le_of_ble_eq_true rfl⟩))) (fun r3 hr3 => ?_)
  subst hr3
  refine lv_if_ne (tgt := 20) hx hb dM_source_10 (by decide) (fun c1 => ?_) (fun c1 => ?_)
  · obtain ⟨a, ha, rfl⟩ := inb_t (by omega) (bI_ne.mp c1)
    refine lv_lconst (v := 0) hx hb dM_source_20 rfl ?_
    refine lv_lstore (lv' := [(4, .long 0), (0, .ref mo), (1, .int (nI a)), (2, .long z)]) hx hb dM_source_21 hl (by decide) rfl (fun ls hl => ?_)
    refine lv_iconst (v := nI 0) hx hb dM_source_23 (by decide) ?_
    refine lv_istore (lv' := [(6, .int (nI 0)), (4, .long 0), (0, .ref mo), (1, .int (nI a)), (2, .long z)]) hx hb dM_source_24 hl (by decide) rfl (fun ls hl => ?_)
    have lp : ∀ (k i : Nat), i + k = 64 → ∀ ls : Array Slot, lv_has ls 7 [(0, .ref mo), (1, .int (nI a)), (2, .long z), (4, .long (src (fun k => fo (64 * a + k)) z i)), (6, .int (nI i))] → W p l e R s m args below meth c H1 lc2 0 0 Q (F0 m 26 ls []) := by
      intro k
      induction k with
      | zero =>
        intro i hik ls hl
        have hi : i = 64 := by omega
        subst hi
        refine lv_iload hx hb dM_source_26 (lv_at hl 4 rfl) ?_
        refine lv_bipush (v := nI 64) hx hb dM_source_28 (by decide) ?_
        refine lv_icmp_ge (tgt := 67) hx hb dM_source_30 (by decide) (fun _ => ?_) (fun c9 => absurd (Int32.le_refl _) c9)
        refine lv_lload hx hb dM_source_67 (lv_at hl 3 rfl) ?_
        rw [hQ]
        exact W.lret (v := src (fun k => fo (64 * a + k)) z 64) hx hb hrt (fun t ht hW => ⟨_, (nI 0), rfl, (Or.inr ⟨a, ha, rfl, rfl, rfl⟩), ⟨lw, hg, fS, fE, by rw [ht]; exact ⟨hob, hal, hab, hsl, hel⟩⟩, by rw [ht]; exact hz, by rw [ht]; exact hk⟩) hL dM_source_69
      | succ k ih =>
        intro i hik ls hl
        have hi : i < 64 := by omega
        refine lv_iload hx hb dM_source_26 (lv_at hl 4 rfl) ?_
        refine lv_bipush (v := nI 64) hx hb dM_source_28 (by decide) ?_
        refine lv_icmp_ge (tgt := 67) hx hb dM_source_30 (by decide) (fun c9 => absurd c9 (nI_ge hi (by decide))) (fun _ => ?_)
        refine lv_aload_n hx hb dM_source_33 rfl (lv_at hl 0 rfl) ?_
        refine va_get (D := G) (ci := 4) (v := .ref ao) (C := RM) (T := TM) (N := 8) hx hb htA inM hown hK (ob_P hob) 0 rfl rfl 1 (by decide) (htA _ wd436) (fun _ h9 => h9) rfl dM_source_34 ?_
        refine lv_bipush (v := nI 64) hx hb dM_source_37 (by decide) ?_
        refine lv_iload_n hx hb dM_source_39 rfl (lv_at hl 1 rfl) ?_
        refine lv_imul hx hb dM_source_40 ?_
        refine pw_ti (y := nI (64 * a)) (pk_mul _ _) ?_
        refine lv_iload hx hb dM_source_41 (lv_at hl 4 rfl) ?_
        refine lv_iadd hx hb dM_source_43 ?_
        refine pw_ti (y := nI ((64 * a) + i)) (nI_add _ _) ?_
        refine pw_lald hx hb hK hal 0 rfl (by omega) (by decide) dM_source_44 ?_
        refine lv_lload_n hx hb dM_source_45 rfl (lv_at hl 2 rfl) ?_
        refine lv_land hx hb dM_source_46 ?_
        refine lv_lconst (v := 0) hx hb dM_source_47 rfl ?_
        refine W.lcmp hx hb dM_source_48 ?_
        refine lv_if_eq (tgt := 61) hx hb dM_source_49 (by decide) (fun c3 => ?_) (fun c3 => ?_)
        · have hq := (cmp0 _ _).mp c3
          have hg : src (fun k => fo (64 * a + k)) z i = src (fun k => fo (64 * a + k)) z (i + 1) := by show _ = (if fo (64 * a + i) &&& z = 0 then _ else _); rw [if_pos hq]
          rw [hg] at hl
          refine lv_iinc (v := nI (i + 1)) (lv' := [(6, .int (nI (i + 1))), (0, .ref mo), (1, .int (nI a)), (2, .long z), (4, .long (src (fun k => fo (64 * a + k)) z (i + 1)))]) hx hb dM_source_61 hl (k := 4) rfl (nI_1 i) (by decide) rfl (fun ls hl => ?_)
          refine lv_goto (tgt := 26) hx hb dM_source_64 (by decide) ?_
          exact ih (i + 1) (by omega) ls (lv_sub hl [1, 2, 3, 4, 0] rfl)
        · have hq : ¬ fo (64 * a + i) &&& z = 0 := fun q => c3 ((cmp0 _ _).mpr q)
          refine lv_lload hx hb dM_source_52 (lv_at hl 3 rfl) ?_
          refine lv_lconst (v := 1) hx hb dM_source_54 rfl ?_
          refine lv_iload hx hb dM_source_55 (lv_at hl 4 rfl) ?_
          refine lv_lshl hx hb dM_source_57 rfl ?_
          refine lv_lor hx hb dM_source_58 ?_
          refine pw_tl (y := src (fun k => fo (64 * a + k)) z (i + 1)) (by show _ = (if fo (64 * a + i) &&& z = 0 then _ else _); rw [if_neg hq]; rfl) ?_
          refine lv_lstore (lv' := [(4, .long (src (fun k => fo (64 * a + k)) z (i + 1))), (0, .ref mo), (1, .int (nI a)), (2, .long z), (6, .int (nI i))]) hx hb dM_source_59 hl (by decide) rfl (fun ls hl => ?_)
          refine lv_iinc (v := nI (i + 1)) (lv' := [(6, .int (nI (i + 1))), (4, .long (src (fun k => fo (64 * a + k)) z (i + 1))), (0, .ref mo), (1, .int (nI a)), (2, .long z)]) hx hb dM_source_61 hl (k := 4) rfl (nI_1 i) (by decide) rfl (fun ls hl => ?_)
          refine lv_goto (tgt := 26) hx hb dM_source_64 (by decide) ?_
          exact ih (i + 1) (by omega) ls (lv_sub hl [2, 3, 4, 1, 0] rfl)
    exact lp (64) 0 (by omega) ls (lv_sub hl [2, 3, 4, 1, 0] rfl)
  · have hq := bI_eq.mp c1
    refine lv_aload_n hx hb dM_source_13 rfl (lv_at hl 0 rfl) ?_
    refine lv_iconst (v := nI 1) hx hb dM_source_14 (by decide) ?_
    refine pw_call (F := mW mo sa ea) (va_runV (As := [.int (nI 1)]) (rest := []) ⟨hx, hb, hml, hown, htA⟩ (m_raise l G cA mo (mF (nI 0) ao af n lw hg sa ea) (nI 1)) (cwV 1 htA (gd_V wd480 wd482 wd16 wd28 wd483) rfl rfl rfl (by decide +kernel) (by rw [hR]; exact ⟨Nat.le_of_ble_eq_true rfl, Nat.le_of_ble_eq_true rfl⟩)) (pw_V (ci := 4) (q := (RM, TM, 8)) hKN hob rfl ⟨hob, Nat.zero_lt_succ _⟩) rfl rfl hl.1 rfl (lv_room (Nat.le_of_ble_eq_true rfl)) dM_source_15 (by rw [hR]; exact ⟨Nat.le_of_ble_eq_true rfl, Nat.le_of_ble_eq_true rfl⟩)) hL (fun q h => Or.inl h) (fun v9 st9 t9 lc5 h0 ha9 hL hq9 => ?_)
    obtain ⟨hv9, hob1, hz1, hk1⟩ := hq9
    cases hv9
    rw [h0] at hz1 hk1
    generalize t9.heap = H4 at hob1 hz1 hk1 ⊢
    have hob : ob G 4 mo (mF (nI 1) ao af n lw hg sa ea) H4 := hob1
    have hal := al_k hal (hk1 ao hA.1)
    have hab := ai_k hab (hk1 af hA.2.1)
    have hsl := ai_k hsl (hk1 sa hA.2.2.1)
    have hel := ai_k hel (hk1 ea hA.2.2.2.1)
    have hk : ∀ q, q ≠ mo → q ≠ sa → q ≠ ea → H4[q]? = s.heap[q]? := fun q h1 h2 h3 => (hk1 q h1).trans (hk q h1 h2 h3)
    have hz := hz1.trans hz
    refine lv_i2l hx hb dM_source_18 rfl ?_
    rw [hQ]
    exact W.lret (v := (0 : Int32).toInt64) hx hb hrt (fun t ht hW => ⟨_, (nI 1), rfl, (Or.inl ⟨hq, rfl⟩), ⟨lw, hg, fS, fE, by rw [ht]; exact ⟨hob, hal, hab, hsl, hel⟩⟩, by rw [ht]; exact hz, by rw [ht]; exact hk⟩) hL dM_source_19
end
section
def wfN (n : Nat) (j : Nat) (a b c : Int32) : Bool := match j with
  | 0 => true
  | 1 => true
  | 2 => inb 3 a && inb 4 b
  | 3 => inb 3 a && inb 4 b
  | 4 => inb n a && inb n b
  | 5 => inb n a && inb n b
  | 6 => inb n a
  | 7 => inb n a
  | 8 => inb n a && (inb n b && inb n c)
  | _ => false
def wf (n : Nat) (k a b c : Int32) : Bool := inb 9 k && wfN n k.toNatClampNeg a b c
def cl (x : Int32) : Nat := x.toNatClampNeg
theorem cl_nI {j : Nat} (h : j < 2147483648) : cl (nI j) = j := nI_clamp h
theorem tb_lo {x : Int32} (h : x < 0) : x.toInt < 0 := by
  rw [Int32.lt_iff_toInt_lt, Int32.toInt_zero] at h
  exact h
theorem tb_hi {x : Int32} {j : Nat} (hj : j < 2147483648) (h : nI j ≤ x) : (j : Int) ≤ x.toInt := by
  rw [Int32.le_iff_toInt_le, nI_toInt hj] at h
  exact h
theorem wf_neg {n : Nat} {k a b c : Int32} (h : k < 0) : wf n k a b c = false := by rw [wf, inb_neg h]; rfl
theorem wf_big {n : Nat} {k a b c : Int32} (h : nI 9 ≤ k) : wf n k a b c = false := by rw [wf, inb_big (by decide) h]; rfl
theorem wf_t {n : Nat} {k a b c : Int32} (h : wf n k a b c = true) : ∃ j, j < 9 ∧ k = nI j ∧ wfN n j a b c = true := by
  unfold wf at h
  rw [Bool.and_eq_true] at h
  obtain ⟨j, hj, rfl⟩ := inb_t (by decide) h.1
  exact ⟨j, hj, rfl, by rw [← nI_clamp (n := j) (by omega)]; exact h.2⟩
theorem and_t {x y : Bool} (h : (x && y) = true) : x = true ∧ y = true := by rw [Bool.and_eq_true] at h; exact h
end
section
set_option maxRecDepth 100000 in
set_option maxHeartbeats 4000000 in
theorem m_can (l : Launch) (G : va_G) (cA : Nat → ClassId) (mo n : Nat) (fs : List Value) (k a b c0 : Int32) (hf3 : fs[3]? = some (.int (nI n))) (hn : n < 1073741824) : Met l yM_can wsM_can ({ frames := 2, cells := 0, slots := 0, locals := 43 }) (PH G cA [.ref mo, .int k, .int a, .int b, .int c0] (fun H => ob G 4 mo fs H)) (vp_Si (fun r => r = bI (wf n k a b c0))) 0 0 (fun _ => False) := by
  refine Met.ofW (cc := cM_can) (maxL := 5) (ret := (some .boolean)) (by decide) rfl ?_
  intro p e s m args below meth c s₁ B hml hv
  obtain ⟨hav, hKN, hob⟩ := hv
  have hK := hKN.1
  have hx := B.exec
  have hb := B.bytes
  have hrt := B.returns
  have htA : ∀ w ∈ ALL, w.before args s = true := fun w h => atoms_spec (ws := wsM_can) B.pre w (List.mem_cons_of_mem _ h)
  have hown : s.vm.findClass RM = some m.cls := findClass_of_methodNamed B.named
  have hlocks := B.notSynchronized
  refine pw_nm (fun R Q hR hQ => ?_)
  refine pw_entry (vs := [.ref mo, .int k, .int a, .int b, .int c0]) hav (Nat.le_of_ble_eq_true rfl) (fun ls hl => ?_)
  have hl : lv_has ls 5 [(0, .ref mo), (1, .int k), (2, .int a), (3, .int b), (4, .int c0)] := hl
  refine lv_iload_n hx hb dM_can_0 rfl (lv_at hl 1 rfl) ?_
  rcases pk_ix k (n := 9) (by decide) with hk | hk | ⟨j, hj, rfl⟩
  · refine lv_tableOut (tgt := 137) hx hb dM_can_1 (Or.inl (tb_lo hk)) (by decide) ?_
    refine lv_iconst (v := nI 0) hx hb dM_can_137 (by decide) ?_
    rw [hQ]
    exact W.zret (v := nI 0) (ty := .boolean) hx hb hrt (by first | rfl | exact bI_nar _) (fun t ht hW => ⟨_, rfl, (by rw [wf_neg hk]; rfl), ht⟩) (fun q h => by cases h) dM_can_138
  · refine lv_tableOut (tgt := 137) hx hb dM_can_1 (Or.inr (by have := tb_hi (j := 9) (by decide) hk; omega)) (by decide) ?_
    refine lv_iconst (v := nI 0) hx hb dM_can_137 (by decide) ?_
    rw [hQ]
    exact W.zret (v := nI 0) (ty := .boolean) hx hb hrt (by first | rfl | exact bI_nar _) (fun t ht hW => ⟨_, rfl, (by rw [wf_big hk]; rfl), ht⟩) (fun q h => by cases h) dM_can_138
  · have hj9 : j = 0 ∨ j = 1 ∨ j = 2 ∨ j = 3 ∨ j = 4 ∨ j = 5 ∨ j = 6 ∨ j = 7 ∨ j = 8 := by omega
    rcases hj9 with rfl | rfl | rfl | rfl | rfl | rfl | rfl | rfl | rfl
    · refine lv_tableIn (tgt := 52) (off := 51) hx hb dM_can_1 (by decide +kernel) (by decide +kernel) rfl (by decide) ?_
      refine lv_iconst (v := nI 1) hx hb dM_can_52 (by decide) ?_
      rw [hQ]
      exact W.zret (v := nI 1) (ty := .boolean) hx hb hrt (by first | rfl | exact bI_nar _) (fun t ht hW => ⟨_, rfl, rfl, ht⟩) (fun q h => by cases h) dM_can_53
    · refine lv_tableIn (tgt := 52) (off := 51) hx hb dM_can_1 (by decide +kernel) (by decide +kernel) rfl (by decide) ?_
      refine lv_iconst (v := nI 1) hx hb dM_can_52 (by decide) ?_
      rw [hQ]
      exact W.zret (v := nI 1) (ty := .boolean) hx hb hrt (by first | rfl | exact bI_nar _) (fun t ht hW => ⟨_, rfl, rfl, ht⟩) (fun q h => by cases h) dM_can_53
    · refine lv_tableIn (tgt := 54) (off := 53) hx hb dM_can_1 (by decide +kernel) (by decide +kernel) rfl (by decide) ?_
      refine lv_iload_n hx hb dM_can_54 rfl (lv_at hl 2 rfl) ?_
      refine lv_iconst (v := nI 0) hx hb dM_can_55 (by decide) ?_
      refine lv_iconst (v := nI 2) hx hb dM_can_56 (by decide) ?_
      refine vp_callSi (va_Run.run (va_runS (As := [.int a, .int (nI 0), .int (nI 2)]) (rest := []) ⟨hx, hb, hml, hown, htA⟩ (m_in l G cA a (nI 0) (nI 2)) (va_cwS 3 htA (gd_S wd473 wd474 wd28 wd475) rfl rfl rfl (by decide +kernel) (by rw [hR]; exact ⟨Nat.le_of_ble_eq_true rfl, Nat.le_of_ble_eq_true rfl⟩)) (pw_S hKN trivial) rfl rfl hl.1 rfl (lv_room (Nat.le_of_ble_eq_true rfl)) dM_can_57 (by rw [hR]; exact ⟨Nat.le_of_ble_eq_true rfl, Nat.le_of_ble_eq_true rfl⟩))) (fun r1 hr1 => ?_)
      subst hr1
      refine pw_ti (y := bI (inb 3 a)) (by rw [in_63 a 2 3 rfl (by decide)]) ?_
      refine lv_if_eq (tgt := 76) hx hb dM_can_60 (by decide) (fun e0 => ?_) (fun e0 => ?_)
      · have hq0 := bI_eq.mp e0
        refine lv_iconst (v := nI 0) hx hb dM_can_76 (by decide) ?_
        rw [hQ]
        exact W.zret (v := nI 0) (ty := .boolean) hx hb hrt (by first | rfl | exact bI_nar _) (fun t ht hW => ⟨_, rfl, (by show _ = bI (inb 3 a && inb 4 b); rw [hq0]; rfl), ht⟩) (fun q h => by cases h) dM_can_77
      · have hq0 := bI_ne.mp e0
        refine lv_iload_n hx hb dM_can_63 rfl (lv_at hl 3 rfl) ?_
        refine lv_iconst (v := nI 0) hx hb dM_can_64 (by decide) ?_
        refine lv_iconst (v := nI 3) hx hb dM_can_65 (by decide) ?_
        refine vp_callSi (va_Run.run (va_runS (As := [.int b, .int (nI 0), .int (nI 3)]) (rest := []) ⟨hx, hb, hml, hown, htA⟩ (m_in l G cA b (nI 0) (nI 3)) (va_cwS 3 htA (gd_S wd473 wd474 wd28 wd475) rfl rfl rfl (by decide +kernel) (by rw [hR]; exact ⟨Nat.le_of_ble_eq_true rfl, Nat.le_of_ble_eq_true rfl⟩)) (pw_S hKN trivial) rfl rfl hl.1 rfl (lv_room (Nat.le_of_ble_eq_true rfl)) dM_can_66 (by rw [hR]; exact ⟨Nat.le_of_ble_eq_true rfl, Nat.le_of_ble_eq_true rfl⟩))) (fun r2 hr2 => ?_)
        subst hr2
        refine pw_ti (y := bI (inb 4 b)) (by rw [in_63 b 3 4 rfl (by decide)]) ?_
        refine lv_if_eq (tgt := 76) hx hb dM_can_69 (by decide) (fun e1 => ?_) (fun e1 => ?_)
        · have hq1 := bI_eq.mp e1
          refine lv_iconst (v := nI 0) hx hb dM_can_76 (by decide) ?_
          rw [hQ]
          exact W.zret (v := nI 0) (ty := .boolean) hx hb hrt (by first | rfl | exact bI_nar _) (fun t ht hW => ⟨_, rfl, (by show _ = bI (inb 3 a && inb 4 b); rw [hq0, hq1]; rfl), ht⟩) (fun q h => by cases h) dM_can_77
        · have hq1 := bI_ne.mp e1
          refine lv_iconst (v := nI 1) hx hb dM_can_72 (by decide) ?_
          refine lv_goto (tgt := 77) hx hb dM_can_73 (by decide) ?_
          rw [hQ]
          exact W.zret (v := nI 1) (ty := .boolean) hx hb hrt (by first | rfl | exact bI_nar _) (fun t ht hW => ⟨_, rfl, (by show _ = bI (inb 3 a && inb 4 b); rw [hq0, hq1]; rfl), ht⟩) (fun q h => by cases h) dM_can_77
    · refine lv_tableIn (tgt := 54) (off := 53) hx hb dM_can_1 (by decide +kernel) (by decide +kernel) rfl (by decide) ?_
      refine lv_iload_n hx hb dM_can_54 rfl (lv_at hl 2 rfl) ?_
      refine lv_iconst (v := nI 0) hx hb dM_can_55 (by decide) ?_
      refine lv_iconst (v := nI 2) hx hb dM_can_56 (by decide) ?_
      refine vp_callSi (va_Run.run (va_runS (As := [.int a, .int (nI 0), .int (nI 2)]) (rest := []) ⟨hx, hb, hml, hown, htA⟩ (m_in l G cA a (nI 0) (nI 2)) (va_cwS 3 htA (gd_S wd473 wd474 wd28 wd475) rfl rfl rfl (by decide +kernel) (by rw [hR]; exact ⟨Nat.le_of_ble_eq_true rfl, Nat.le_of_ble_eq_true rfl⟩)) (pw_S hKN trivial) rfl rfl hl.1 rfl (lv_room (Nat.le_of_ble_eq_true rfl)) dM_can_57 (by rw [hR]; exact ⟨Nat.le_of_ble_eq_true rfl, Nat.le_of_ble_eq_true rfl⟩))) (fun r1 hr1 => ?_)
      subst hr1
      refine pw_ti (y := bI (inb 3 a)) (by rw [in_63 a 2 3 rfl (by decide)]) ?_
      refine lv_if_eq (tgt := 76) hx hb dM_can_60 (by decide) (fun e0 => ?_) (fun e0 => ?_)
      · have hq0 := bI_eq.mp e0
        refine lv_iconst (v := nI 0) hx hb dM_can_76 (by decide) ?_
        rw [hQ]
        exact W.zret (v := nI 0) (ty := .boolean) hx hb hrt (by first | rfl | exact bI_nar _) (fun t ht hW => ⟨_, rfl, (by show _ = bI (inb 3 a && inb 4 b); rw [hq0]; rfl), ht⟩) (fun q h => by cases h) dM_can_77
      · have hq0 := bI_ne.mp e0
        refine lv_iload_n hx hb dM_can_63 rfl (lv_at hl 3 rfl) ?_
        refine lv_iconst (v := nI 0) hx hb dM_can_64 (by decide) ?_
        refine lv_iconst (v := nI 3) hx hb dM_can_65 (by decide) ?_
        refine vp_callSi (va_Run.run (va_runS (As := [.int b, .int (nI 0), .int (nI 3)]) (rest := []) ⟨hx, hb, hml, hown, htA⟩ (m_in l G cA b (nI 0) (nI 3)) (va_cwS 3 htA (gd_S wd473 wd474 wd28 wd475) rfl rfl rfl (by decide +kernel) (by rw [hR]; exact ⟨Nat.le_of_ble_eq_true rfl, Nat.le_of_ble_eq_true rfl⟩)) (pw_S hKN trivial) rfl rfl hl.1 rfl (lv_room (Nat.le_of_ble_eq_true rfl)) dM_can_66 (by rw [hR]; exact ⟨Nat.le_of_ble_eq_true rfl, Nat.le_of_ble_eq_true rfl⟩))) (fun r2 hr2 => ?_)
        subst hr2
        refine pw_ti (y := bI (inb 4 b)) (by rw [in_63 b 3 4 rfl (by decide)]) ?_
        refine lv_if_eq (tgt := 76) hx hb dM_can_69 (by decide) (fun e1 => ?_) (fun e1 => ?_)
        · have hq1 := bI_eq.mp e1
          refine lv_iconst (v := nI 0) hx hb dM_can_76 (by decide) ?_
          rw [hQ]
          exact W.zret (v := nI 0) (ty := .boolean) hx hb hrt (by first | rfl | exact bI_nar _) (fun t ht hW => ⟨_, rfl, (by show _ = bI (inb 3 a && inb 4 b); rw [hq0, hq1]; rfl), ht⟩) (fun q h => by cases h) dM_can_77
        · have hq1 := bI_ne.mp e1
          refine lv_iconst (v := nI 1) hx hb dM_can_72 (by decide) ?_
          refine lv_goto (tgt := 77) hx hb dM_can_73 (by decide) ?_
          rw [hQ]
          exact W.zret (v := nI 1) (ty := .boolean) hx hb hrt (by first | rfl | exact bI_nar _) (fun t ht hW => ⟨_, rfl, (by show _ = bI (inb 3 a && inb 4 b); rw [hq0, hq1]; rfl), ht⟩) (fun q h => by cases h) dM_can_77
    · refine lv_tableIn (tgt := 78) (off := 77) hx hb dM_can_1 (by decide +kernel) (by decide +kernel) rfl (by decide) ?_
      refine lv_aload_n hx hb dM_can_78 rfl (lv_at hl 0 rfl) ?_
      refine lv_iload_n hx hb dM_can_79 rfl (lv_at hl 2 rfl) ?_
      refine vp_callSi (va_Run.run (va_runV (As := [.int a]) (rest := []) ⟨hx, hb, hml, hown, htA⟩ (m_made l G cA mo n fs a hf3 hn) (cwV 1 htA (gd_V wd476 wd478 wd15 wd28 wd479) rfl rfl rfl (by decide +kernel) (by rw [hR]; exact ⟨Nat.le_of_ble_eq_true rfl, Nat.le_of_ble_eq_true rfl⟩)) (pw_V (ci := 4) (q := (RM, TM, 8)) hKN hob rfl hob) rfl rfl hl.1 rfl (lv_room (Nat.le_of_ble_eq_true rfl)) dM_can_80 (by rw [hR]; exact ⟨Nat.le_of_ble_eq_true rfl, Nat.le_of_ble_eq_true rfl⟩))) (fun r1 hr1 => ?_)
      subst hr1
      refine lv_if_eq (tgt := 98) hx hb dM_can_83 (by decide) (fun e0 => ?_) (fun e0 => ?_)
      · have hq0 := bI_eq.mp e0
        refine lv_iconst (v := nI 0) hx hb dM_can_98 (by decide) ?_
        rw [hQ]
        exact W.zret (v := nI 0) (ty := .boolean) hx hb hrt (by first | rfl | exact bI_nar _) (fun t ht hW => ⟨_, rfl, (by show _ = bI (inb n a && inb n b); rw [hq0]; rfl), ht⟩) (fun q h => by cases h) dM_can_99
      · have hq0 := bI_ne.mp e0
        refine lv_aload_n hx hb dM_can_86 rfl (lv_at hl 0 rfl) ?_
        refine lv_iload_n hx hb dM_can_87 rfl (lv_at hl 3 rfl) ?_
        refine vp_callSi (va_Run.run (va_runV (As := [.int b]) (rest := []) ⟨hx, hb, hml, hown, htA⟩ (m_made l G cA mo n fs b hf3 hn) (cwV 1 htA (gd_V wd476 wd478 wd15 wd28 wd479) rfl rfl rfl (by decide +kernel) (by rw [hR]; exact ⟨Nat.le_of_ble_eq_true rfl, Nat.le_of_ble_eq_true rfl⟩)) (pw_V (ci := 4) (q := (RM, TM, 8)) hKN hob rfl hob) rfl rfl hl.1 rfl (lv_room (Nat.le_of_ble_eq_true rfl)) dM_can_88 (by rw [hR]; exact ⟨Nat.le_of_ble_eq_true rfl, Nat.le_of_ble_eq_true rfl⟩))) (fun r2 hr2 => ?_)
        subst hr2
        refine lv_if_eq (tgt := 98) hx hb dM_can_91 (by decide) (fun e1 => ?_) (fun e1 => ?_)
        · have hq1 := bI_eq.mp e1
          refine lv_iconst (v := nI 0) hx hb dM_can_98 (by decide) ?_
          rw [hQ]
          exact W.zret (v := nI 0) (ty := .boolean) hx hb hrt (by first | rfl | exact bI_nar _) (fun t ht hW => ⟨_, rfl, (by show _ = bI (inb n a && inb n b); rw [hq0, hq1]; rfl), ht⟩) (fun q h => by cases h) dM_can_99
        · have hq1 := bI_ne.mp e1
          refine lv_iconst (v := nI 1) hx hb dM_can_94 (by decide) ?_
          refine lv_goto (tgt := 99) hx hb dM_can_95 (by decide) ?_
          rw [hQ]
          exact W.zret (v := nI 1) (ty := .boolean) hx hb hrt (by first | rfl | exact bI_nar _) (fun t ht hW => ⟨_, rfl, (by show _ = bI (inb n a && inb n b); rw [hq0, hq1]; rfl), ht⟩) (fun q h => by cases h) dM_can_99
    · refine lv_tableIn (tgt := 78) (off := 77) hx hb dM_can_1 (by decide +kernel) (by decide +kernel) rfl (by decide) ?_
      refine lv_aload_n hx hb dM_can_78 rfl (lv_at hl 0 rfl) ?_
      refine lv_iload_n hx hb dM_can_79 rfl (lv_at hl 2 rfl) ?_
      refine vp_callSi (va_Run.run (va_runV (As := [.int a]) (rest := []) ⟨hx, hb, hml, hown, htA⟩ (m_made l G cA mo n fs a hf3 hn) (cwV 1 htA (gd_V wd476 wd478 wd15 wd28 wd479) rfl rfl rfl (by decide +kernel) (by rw [hR]; exact ⟨Nat.le_of_ble_eq_true rfl, Nat.le_of_ble_eq_true rfl⟩)) (pw_V (ci := 4) (q := (RM, TM, 8)) hKN hob rfl hob) rfl rfl hl.1 rfl (lv_room (Nat.le_of_ble_eq_true rfl)) dM_can_80 (by rw [hR]; exact ⟨Nat.le_of_ble_eq_true rfl, Nat.le_of_ble_eq_true rfl⟩))) (fun r1 hr1 => ?_)
      subst hr1
      refine lv_if_eq (tgt := 98) hx hb dM_can_83 (by decide) (fun e0 => ?_) (fun e0 => ?_)
      · have hq0 := bI_eq.mp e0
        refine lv_iconst (v := nI 0) hx hb dM_can_98 (by decide) ?_
        rw [hQ]
        exact W.zret (v := nI 0) (ty := .boolean) hx hb hrt (by first | rfl | exact bI_nar _) (fun t ht hW => ⟨_, rfl, (by show _ = bI (inb n a && inb n b); rw [hq0]; rfl), ht⟩) (fun q h => by cases h) dM_can_99
      · have hq0 := bI_ne.mp e0
        refine lv_aload_n hx hb dM_can_86 rfl (lv_at hl 0 rfl) ?_
        refine lv_iload_n hx hb dM_can_87 rfl (lv_at hl 3 rfl) ?_
        refine vp_callSi (va_Run.run (va_runV (As := [.int b]) (rest := []) ⟨hx, hb, hml, hown, htA⟩ (m_made l G cA mo n fs b hf3 hn) (cwV 1 htA (gd_V wd476 wd478 wd15 wd28 wd479) rfl rfl rfl (by decide +kernel) (by rw [hR]; exact ⟨Nat.le_of_ble_eq_true rfl, Nat.le_of_ble_eq_true rfl⟩)) (pw_V (ci := 4) (q := (RM, TM, 8)) hKN hob rfl hob) rfl rfl hl.1 rfl (lv_room (Nat.le_of_ble_eq_true rfl)) dM_can_88 (by rw [hR]; exact ⟨Nat.le_of_ble_eq_true rfl, Nat.le_of_ble_eq_true rfl⟩))) (fun r2 hr2 => ?_)
        subst hr2
        refine lv_if_eq (tgt := 98) hx hb dM_can_91 (by decide) (fun e1 => ?_) (fun e1 => ?_)
        · have hq1 := bI_eq.mp e1
          refine lv_iconst (v := nI 0) hx hb dM_can_98 (by decide) ?_
          rw [hQ]
          exact W.zret (v := nI 0) (ty := .boolean) hx hb hrt (by first | rfl | exact bI_nar _) (fun t ht hW => ⟨_, rfl, (by show _ = bI (inb n a && inb n b); rw [hq0, hq1]; rfl), ht⟩) (fun q h => by cases h) dM_can_99
        · have hq1 := bI_ne.mp e1
          refine lv_iconst (v := nI 1) hx hb dM_can_94 (by decide) ?_
          refine lv_goto (tgt := 99) hx hb dM_can_95 (by decide) ?_
          rw [hQ]
          exact W.zret (v := nI 1) (ty := .boolean) hx hb hrt (by first | rfl | exact bI_nar _) (fun t ht hW => ⟨_, rfl, (by show _ = bI (inb n a && inb n b); rw [hq0, hq1]; rfl), ht⟩) (fun q h => by cases h) dM_can_99
    · refine lv_tableIn (tgt := 100) (off := 99) hx hb dM_can_1 (by decide +kernel) (by decide +kernel) rfl (by decide) ?_
      refine lv_aload_n hx hb dM_can_100 rfl (lv_at hl 0 rfl) ?_
      refine lv_iload_n hx hb dM_can_101 rfl (lv_at hl 2 rfl) ?_
      refine vp_callSi (va_Run.run (va_runV (As := [.int a]) (rest := []) ⟨hx, hb, hml, hown, htA⟩ (m_made l G cA mo n fs a hf3 hn) (cwV 1 htA (gd_V wd476 wd478 wd15 wd28 wd479) rfl rfl rfl (by decide +kernel) (by rw [hR]; exact ⟨Nat.le_of_ble_eq_true rfl, Nat.le_of_ble_eq_true rfl⟩)) (pw_V (ci := 4) (q := (RM, TM, 8)) hKN hob rfl hob) rfl rfl hl.1 rfl (lv_room (Nat.le_of_ble_eq_true rfl)) dM_can_102 (by rw [hR]; exact ⟨Nat.le_of_ble_eq_true rfl, Nat.le_of_ble_eq_true rfl⟩))) (fun r1 hr1 => ?_)
      subst hr1
      rw [hQ]
      exact W.zret (v := bI (inb n a)) (ty := .boolean) hx hb hrt (by first | rfl | exact bI_nar _) (fun t ht hW => ⟨_, rfl, rfl, ht⟩) (fun q h => by cases h) dM_can_105
    · refine lv_tableIn (tgt := 100) (off := 99) hx hb dM_can_1 (by decide +kernel) (by decide +kernel) rfl (by decide) ?_
      refine lv_aload_n hx hb dM_can_100 rfl (lv_at hl 0 rfl) ?_
      refine lv_iload_n hx hb dM_can_101 rfl (lv_at hl 2 rfl) ?_
      refine vp_callSi (va_Run.run (va_runV (As := [.int a]) (rest := []) ⟨hx, hb, hml, hown, htA⟩ (m_made l G cA mo n fs a hf3 hn) (cwV 1 htA (gd_V wd476 wd478 wd15 wd28 wd479) rfl rfl rfl (by decide +kernel) (by rw [hR]; exact ⟨Nat.le_of_ble_eq_true rfl, Nat.le_of_ble_eq_true rfl⟩)) (pw_V (ci := 4) (q := (RM, TM, 8)) hKN hob rfl hob) rfl rfl hl.1 rfl (lv_room (Nat.le_of_ble_eq_true rfl)) dM_can_102 (by rw [hR]; exact ⟨Nat.le_of_ble_eq_true rfl, Nat.le_of_ble_eq_true rfl⟩))) (fun r1 hr1 => ?_)
      subst hr1
      rw [hQ]
      exact W.zret (v := bI (inb n a)) (ty := .boolean) hx hb hrt (by first | rfl | exact bI_nar _) (fun t ht hW => ⟨_, rfl, rfl, ht⟩) (fun q h => by cases h) dM_can_105
    · refine lv_tableIn (tgt := 106) (off := 105) hx hb dM_can_1 (by decide +kernel) (by decide +kernel) rfl (by decide) ?_
      refine lv_aload_n hx hb dM_can_106 rfl (lv_at hl 0 rfl) ?_
      refine lv_iload_n hx hb dM_can_107 rfl (lv_at hl 2 rfl) ?_
      refine vp_callSi (va_Run.run (va_runV (As := [.int a]) (rest := []) ⟨hx, hb, hml, hown, htA⟩ (m_made l G cA mo n fs a hf3 hn) (cwV 1 htA (gd_V wd476 wd478 wd15 wd28 wd479) rfl rfl rfl (by decide +kernel) (by rw [hR]; exact ⟨Nat.le_of_ble_eq_true rfl, Nat.le_of_ble_eq_true rfl⟩)) (pw_V (ci := 4) (q := (RM, TM, 8)) hKN hob rfl hob) rfl rfl hl.1 rfl (lv_room (Nat.le_of_ble_eq_true rfl)) dM_can_108 (by rw [hR]; exact ⟨Nat.le_of_ble_eq_true rfl, Nat.le_of_ble_eq_true rfl⟩))) (fun r1 hr1 => ?_)
      subst hr1
      refine lv_if_eq (tgt := 135) hx hb dM_can_111 (by decide) (fun e0 => ?_) (fun e0 => ?_)
      · have hq0 := bI_eq.mp e0
        refine lv_iconst (v := nI 0) hx hb dM_can_135 (by decide) ?_
        rw [hQ]
        exact W.zret (v := nI 0) (ty := .boolean) hx hb hrt (by first | rfl | exact bI_nar _) (fun t ht hW => ⟨_, rfl, (by show _ = bI (inb n a && (inb n b && inb n c0)); rw [hq0]; rfl), ht⟩) (fun q h => by cases h) dM_can_136
      · have hq0 := bI_ne.mp e0
        refine lv_aload_n hx hb dM_can_114 rfl (lv_at hl 0 rfl) ?_
        refine lv_iload_n hx hb dM_can_115 rfl (lv_at hl 3 rfl) ?_
        refine vp_callSi (va_Run.run (va_runV (As := [.int b]) (rest := []) ⟨hx, hb, hml, hown, htA⟩ (m_made l G cA mo n fs b hf3 hn) (cwV 1 htA (gd_V wd476 wd478 wd15 wd28 wd479) rfl rfl rfl (by decide +kernel) (by rw [hR]; exact ⟨Nat.le_of_ble_eq_true rfl, Nat.le_of_ble_eq_true rfl⟩)) (pw_V (ci := 4) (q := (RM, TM, 8)) hKN hob rfl hob) rfl rfl hl.1 rfl (lv_room (Nat.le_of_ble_eq_true rfl)) dM_can_116 (by rw [hR]; exact ⟨Nat.le_of_ble_eq_true rfl, Nat.le_of_ble_eq_true rfl⟩))) (fun r2 hr2 => ?_)
        subst hr2
        refine lv_if_eq (tgt := 135) hx hb dM_can_119 (by decide) (fun e1 => ?_) (fun e1 => ?_)
        · have hq1 := bI_eq.mp e1
          refine lv_iconst (v := nI 0) hx hb dM_can_135 (by decide) ?_
          rw [hQ]
          exact W.zret (v := nI 0) (ty := .boolean) hx hb hrt (by first | rfl | exact bI_nar _) (fun t ht hW => ⟨_, rfl, (by show _ = bI (inb n a && (inb n b && inb n c0)); rw [hq0, hq1]; rfl), ht⟩) (fun q h => by cases h) dM_can_136
        · have hq1 := bI_ne.mp e1
          refine lv_aload_n hx hb dM_can_122 rfl (lv_at hl 0 rfl) ?_
          refine lv_iload hx hb dM_can_123 (lv_at hl 4 rfl) ?_
          refine vp_callSi (va_Run.run (va_runV (As := [.int c0]) (rest := []) ⟨hx, hb, hml, hown, htA⟩ (m_made l G cA mo n fs c0 hf3 hn) (cwV 1 htA (gd_V wd476 wd478 wd15 wd28 wd479) rfl rfl rfl (by decide +kernel) (by rw [hR]; exact ⟨Nat.le_of_ble_eq_true rfl, Nat.le_of_ble_eq_true rfl⟩)) (pw_V (ci := 4) (q := (RM, TM, 8)) hKN hob rfl hob) rfl rfl hl.1 rfl (lv_room (Nat.le_of_ble_eq_true rfl)) dM_can_125 (by rw [hR]; exact ⟨Nat.le_of_ble_eq_true rfl, Nat.le_of_ble_eq_true rfl⟩))) (fun r3 hr3 => ?_)
          subst hr3
          refine lv_if_eq (tgt := 135) hx hb dM_can_128 (by decide) (fun e2 => ?_) (fun e2 => ?_)
          · have hq2 := bI_eq.mp e2
            refine lv_iconst (v := nI 0) hx hb dM_can_135 (by decide) ?_
            rw [hQ]
            exact W.zret (v := nI 0) (ty := .boolean) hx hb hrt (by first | rfl | exact bI_nar _) (fun t ht hW => ⟨_, rfl, (by show _ = bI (inb n a && (inb n b && inb n c0)); rw [hq0, hq1, hq2]; rfl), ht⟩) (fun q h => by cases h) dM_can_136
          · have hq2 := bI_ne.mp e2
            refine lv_iconst (v := nI 1) hx hb dM_can_131 (by decide) ?_
            refine lv_goto (tgt := 136) hx hb dM_can_132 (by decide) ?_
            rw [hQ]
            exact W.zret (v := nI 1) (ty := .boolean) hx hb hrt (by first | rfl | exact bI_nar _) (fun t ht hW => ⟨_, rfl, (by show _ = bI (inb n a && (inb n b && inb n c0)); rw [hq0, hq1, hq2]; rfl), ht⟩) (fun q h => by cases h) dM_can_136

set_option maxRecDepth 100000 in
set_option maxHeartbeats 4000000 in
theorem m_passes (l : Launch) (G : va_G) (cA : Nat → ClassId) (mo af n : Nat) (fs : List Value) (fb : Nat → Int32) (F : Nat → Bool) (j : Nat) (hj : j < 9) (a b c0 : Int32) (hf2 : fs[2]? = some (.ref af)) (hn : n ≤ 50) (hw : wfN n j a b c0 = true) (hF : ∀ i, i < n → fb i = bI (F i)) : Met l yM_passes wsM_passes ({ frames := 0, cells := 0, slots := 0, locals := 0 }) (PH G cA [.ref mo, .int (nI j), .int a, .int b, .int c0] (fun H => (ob G 4 mo fs H ∧ ai (cA 3) af 50 fb H))) (vp_Si (fun r => r = bI (polB j (cl a) (cl b) (cl c0) F))) 0 0 (fun _ => False) := by
  refine Met.ofW (cc := cM_passes) (maxL := 5) (ret := (some .boolean)) (by decide) rfl ?_
  intro p e s m args below meth c s₁ B hml hv
  obtain ⟨hav, hKN, hob, hab⟩ := hv
  have hK := hKN.1
  have hx := B.exec
  have hb := B.bytes
  have hrt := B.returns
  have htA : ∀ w ∈ ALL, w.before args s = true := fun w h => atoms_spec (ws := wsM_passes) B.pre w (List.mem_cons_of_mem _ h)
  have hown : s.vm.findClass RM = some m.cls := findClass_of_methodNamed B.named
  have hlocks := B.notSynchronized
  refine pw_nm (fun R Q hR hQ => ?_)
  refine pw_entry (vs := [.ref mo, .int (nI j), .int a, .int b, .int c0]) hav (Nat.le_of_ble_eq_true rfl) (fun ls hl => ?_)
  have hl : lv_has ls 5 [(0, .ref mo), (1, .int (nI j)), (2, .int a), (3, .int b), (4, .int c0)] := hl
  have hj9 : j = 0 ∨ j = 1 ∨ j = 2 ∨ j = 3 ∨ j = 4 ∨ j = 5 ∨ j = 6 ∨ j = 7 ∨ j = 8 := by omega
  rcases hj9 with rfl | rfl | rfl | rfl | rfl | rfl | rfl | rfl | rfl
  · refine lv_iload_n hx hb dM_passes_0 rfl (lv_at hl 1 rfl) ?_
    refine lv_iconst (v := nI 3) hx hb dM_passes_1 (by decide) ?_
    refine lv_icmp_lt (tgt := 11) hx hb dM_passes_2 (by decide) (fun _ => ?_) (fun c9 => absurd (by decide) c9)
    refine lv_iconst (v := nI 1) hx hb dM_passes_11 (by decide) ?_
    rw [hQ]
    exact W.zret (v := nI 1) (ty := .boolean) hx hb hrt (by first | rfl | exact bI_nar _) (fun t ht hW => ⟨_, rfl, rfl, ht⟩) (fun q h => by cases h) dM_passes_12
  · refine lv_iload_n hx hb dM_passes_0 rfl (lv_at hl 1 rfl) ?_
    refine lv_iconst (v := nI 3) hx hb dM_passes_1 (by decide) ?_
    refine lv_icmp_lt (tgt := 11) hx hb dM_passes_2 (by decide) (fun _ => ?_) (fun c9 => absurd (by decide) c9)
    refine lv_iconst (v := nI 1) hx hb dM_passes_11 (by decide) ?_
    rw [hQ]
    exact W.zret (v := nI 1) (ty := .boolean) hx hb hrt (by first | rfl | exact bI_nar _) (fun t ht hW => ⟨_, rfl, rfl, ht⟩) (fun q h => by cases h) dM_passes_12
  · refine lv_iload_n hx hb dM_passes_0 rfl (lv_at hl 1 rfl) ?_
    refine lv_iconst (v := nI 3) hx hb dM_passes_1 (by decide) ?_
    refine lv_icmp_lt (tgt := 11) hx hb dM_passes_2 (by decide) (fun _ => ?_) (fun c9 => absurd (by decide) c9)
    refine lv_iconst (v := nI 1) hx hb dM_passes_11 (by decide) ?_
    rw [hQ]
    exact W.zret (v := nI 1) (ty := .boolean) hx hb hrt (by first | rfl | exact bI_nar _) (fun t ht hW => ⟨_, rfl, rfl, ht⟩) (fun q h => by cases h) dM_passes_12
  · refine lv_iload_n hx hb dM_passes_0 rfl (lv_at hl 1 rfl) ?_
    refine lv_iconst (v := nI 3) hx hb dM_passes_1 (by decide) ?_
    refine lv_icmp_lt (tgt := 11) hx hb dM_passes_2 (by decide) (fun c9 => absurd c9 (by decide)) (fun _ => ?_)
    refine lv_iload_n hx hb dM_passes_5 rfl (lv_at hl 1 rfl) ?_
    refine lv_bipush (v := nI 7) hx hb dM_passes_6 (by decide) ?_
    refine lv_icmp_ne (tgt := 13) hx hb dM_passes_8 (by decide) (fun _ => ?_) (fun c9 => absurd c9 (by decide))
    refine lv_iload_n hx hb dM_passes_13 rfl (lv_at hl 1 rfl) ?_
    refine lv_iconst (v := nI 3) hx hb dM_passes_14 (by decide) ?_
    refine lv_icmp_ne (tgt := 20) hx hb dM_passes_15 (by decide) (fun c9 => absurd (by decide) c9) (fun _ => ?_)
    refine lv_iconst (v := nI 0) hx hb dM_passes_18 (by decide) ?_
    rw [hQ]
    exact W.zret (v := nI 0) (ty := .boolean) hx hb hrt (by first | rfl | exact bI_nar _) (fun t ht hW => ⟨_, rfl, rfl, ht⟩) (fun q h => by cases h) dM_passes_19
  · have hw : (inb n a && inb n b) = true := hw
    obtain ⟨hwa, hwb⟩ := and_t hw
    obtain ⟨na, ha, rfl⟩ := inb_t (by omega) hwa
    obtain ⟨nb, hb1, rfl⟩ := inb_t (by omega) hwb
    have hcl : True := trivial
    refine lv_iload_n hx hb dM_passes_0 rfl (lv_at hl 1 rfl) ?_
    refine lv_iconst (v := nI 3) hx hb dM_passes_1 (by decide) ?_
    refine lv_icmp_lt (tgt := 11) hx hb dM_passes_2 (by decide) (fun c9 => absurd c9 (by decide)) (fun _ => ?_)
    refine lv_iload_n hx hb dM_passes_5 rfl (lv_at hl 1 rfl) ?_
    refine lv_bipush (v := nI 7) hx hb dM_passes_6 (by decide) ?_
    refine lv_icmp_ne (tgt := 13) hx hb dM_passes_8 (by decide) (fun _ => ?_) (fun c9 => absurd c9 (by decide))
    refine lv_iload_n hx hb dM_passes_13 rfl (lv_at hl 1 rfl) ?_
    refine lv_iconst (v := nI 3) hx hb dM_passes_14 (by decide) ?_
    refine lv_icmp_ne (tgt := 20) hx hb dM_passes_15 (by decide) (fun _ => ?_) (fun c9 => absurd c9 (by decide))
    refine lv_iload_n hx hb dM_passes_20 rfl (lv_at hl 1 rfl) ?_
    refine lv_bipush (v := nI 6) hx hb dM_passes_21 (by decide) ?_
    refine lv_icmp_ne (tgt := 33) hx hb dM_passes_23 (by decide) (fun _ => ?_) (fun c9 => absurd c9 (by decide))
    refine lv_aload_n hx hb dM_passes_33 rfl (lv_at hl 0 rfl) ?_
    refine va_get (D := G) (ci := 4) (v := .ref af) (C := RM) (T := TM) (N := 8) hx hb htA inM hown hK (ob_P hob) 0 rfl rfl 2 (by decide) (htA _ wd437) (fun _ h9 => h9) hf2 dM_passes_34 ?_
    refine lv_iload_n hx hb dM_passes_37 rfl (lv_at hl 2 rfl) ?_
    refine pw_zald hx hb hK hab 3 rfl (by omega) (by decide) dM_passes_38 ?_
    refine pw_ti (y := bI (F na)) (hF na ha) ?_
    refine lv_if_eq (tgt := 71) hx hb dM_passes_39 (by decide) (fun cc => ?_) (fun cc => ?_)
    · have hq := bI_eq.mp cc
      refine lv_iconst (v := nI 0) hx hb dM_passes_71 (by decide) ?_
      rw [hQ]
      exact W.zret (v := nI 0) (ty := .boolean) hx hb hrt (by first | rfl | exact bI_nar _) (fun t ht hW => ⟨_, rfl, (by show _ = bI (F (cl (nI na)) && F (cl (nI nb))); rw [cl_nI (j := na) (by omega), cl_nI (j := nb) (by omega), hq]; rfl), ht⟩) (fun q h => by cases h) dM_passes_72
    · have hq1 := bI_ne.mp cc
      refine lv_aload_n hx hb dM_passes_42 rfl (lv_at hl 0 rfl) ?_
      refine va_get (D := G) (ci := 4) (v := .ref af) (C := RM) (T := TM) (N := 8) hx hb htA inM hown hK (ob_P hob) 0 rfl rfl 2 (by decide) (htA _ wd437) (fun _ h9 => h9) hf2 dM_passes_43 ?_
      refine lv_iload_n hx hb dM_passes_46 rfl (lv_at hl 3 rfl) ?_
      refine pw_zald hx hb hK hab 3 rfl (by omega) (by decide) dM_passes_47 ?_
      refine pw_ti (y := bI (F nb)) (hF nb hb1) ?_
      refine lv_if_eq (tgt := 71) hx hb dM_passes_48 (by decide) (fun cc => ?_) (fun cc => ?_)
      · have hq := bI_eq.mp cc
        refine lv_iconst (v := nI 0) hx hb dM_passes_71 (by decide) ?_
        rw [hQ]
        exact W.zret (v := nI 0) (ty := .boolean) hx hb hrt (by first | rfl | exact bI_nar _) (fun t ht hW => ⟨_, rfl, (by show _ = bI (F (cl (nI na)) && F (cl (nI nb))); rw [cl_nI (j := na) (by omega), cl_nI (j := nb) (by omega), hq1, hq]; rfl), ht⟩) (fun q h => by cases h) dM_passes_72
      · have hq2 := bI_ne.mp cc
        refine lv_iload_n hx hb dM_passes_51 rfl (lv_at hl 1 rfl) ?_
        refine lv_bipush (v := nI 8) hx hb dM_passes_52 (by decide) ?_
        refine lv_icmp_lt (tgt := 67) hx hb dM_passes_54 (by decide) (fun _ => ?_) (fun c9 => absurd (by decide) c9)
        refine lv_iconst (v := nI 1) hx hb dM_passes_67 (by decide) ?_
        refine lv_goto (tgt := 72) hx hb dM_passes_68 (by decide) ?_
        rw [hQ]
        exact W.zret (v := nI 1) (ty := .boolean) hx hb hrt (by first | rfl | exact bI_nar _) (fun t ht hW => ⟨_, rfl, (by show _ = bI (F (cl (nI na)) && F (cl (nI nb))); rw [cl_nI (j := na) (by omega), cl_nI (j := nb) (by omega), hq1, hq2]; rfl), ht⟩) (fun q h => by cases h) dM_passes_72
  · have hw : (inb n a && inb n b) = true := hw
    obtain ⟨hwa, hwb⟩ := and_t hw
    obtain ⟨na, ha, rfl⟩ := inb_t (by omega) hwa
    obtain ⟨nb, hb1, rfl⟩ := inb_t (by omega) hwb
    have hcl : True := trivial
    refine lv_iload_n hx hb dM_passes_0 rfl (lv_at hl 1 rfl) ?_
    refine lv_iconst (v := nI 3) hx hb dM_passes_1 (by decide) ?_
    refine lv_icmp_lt (tgt := 11) hx hb dM_passes_2 (by decide) (fun c9 => absurd c9 (by decide)) (fun _ => ?_)
    refine lv_iload_n hx hb dM_passes_5 rfl (lv_at hl 1 rfl) ?_
    refine lv_bipush (v := nI 7) hx hb dM_passes_6 (by decide) ?_
    refine lv_icmp_ne (tgt := 13) hx hb dM_passes_8 (by decide) (fun _ => ?_) (fun c9 => absurd c9 (by decide))
    refine lv_iload_n hx hb dM_passes_13 rfl (lv_at hl 1 rfl) ?_
    refine lv_iconst (v := nI 3) hx hb dM_passes_14 (by decide) ?_
    refine lv_icmp_ne (tgt := 20) hx hb dM_passes_15 (by decide) (fun _ => ?_) (fun c9 => absurd c9 (by decide))
    refine lv_iload_n hx hb dM_passes_20 rfl (lv_at hl 1 rfl) ?_
    refine lv_bipush (v := nI 6) hx hb dM_passes_21 (by decide) ?_
    refine lv_icmp_ne (tgt := 33) hx hb dM_passes_23 (by decide) (fun _ => ?_) (fun c9 => absurd c9 (by decide))
    refine lv_aload_n hx hb dM_passes_33 rfl (lv_at hl 0 rfl) ?_
    refine va_get (D := G) (ci := 4) (v := .ref af) (C := RM) (T := TM) (N := 8) hx hb htA inM hown hK (ob_P hob) 0 rfl rfl 2 (by decide) (htA _ wd437) (fun _ h9 => h9) hf2 dM_passes_34 ?_
    refine lv_iload_n hx hb dM_passes_37 rfl (lv_at hl 2 rfl) ?_
    refine pw_zald hx hb hK hab 3 rfl (by omega) (by decide) dM_passes_38 ?_
    refine pw_ti (y := bI (F na)) (hF na ha) ?_
    refine lv_if_eq (tgt := 71) hx hb dM_passes_39 (by decide) (fun cc => ?_) (fun cc => ?_)
    · have hq := bI_eq.mp cc
      refine lv_iconst (v := nI 0) hx hb dM_passes_71 (by decide) ?_
      rw [hQ]
      exact W.zret (v := nI 0) (ty := .boolean) hx hb hrt (by first | rfl | exact bI_nar _) (fun t ht hW => ⟨_, rfl, (by show _ = bI (F (cl (nI na)) && F (cl (nI nb))); rw [cl_nI (j := na) (by omega), cl_nI (j := nb) (by omega), hq]; rfl), ht⟩) (fun q h => by cases h) dM_passes_72
    · have hq1 := bI_ne.mp cc
      refine lv_aload_n hx hb dM_passes_42 rfl (lv_at hl 0 rfl) ?_
      refine va_get (D := G) (ci := 4) (v := .ref af) (C := RM) (T := TM) (N := 8) hx hb htA inM hown hK (ob_P hob) 0 rfl rfl 2 (by decide) (htA _ wd437) (fun _ h9 => h9) hf2 dM_passes_43 ?_
      refine lv_iload_n hx hb dM_passes_46 rfl (lv_at hl 3 rfl) ?_
      refine pw_zald hx hb hK hab 3 rfl (by omega) (by decide) dM_passes_47 ?_
      refine pw_ti (y := bI (F nb)) (hF nb hb1) ?_
      refine lv_if_eq (tgt := 71) hx hb dM_passes_48 (by decide) (fun cc => ?_) (fun cc => ?_)
      · have hq := bI_eq.mp cc
        refine lv_iconst (v := nI 0) hx hb dM_passes_71 (by decide) ?_
        rw [hQ]
        exact W.zret (v := nI 0) (ty := .boolean) hx hb hrt (by first | rfl | exact bI_nar _) (fun t ht hW => ⟨_, rfl, (by show _ = bI (F (cl (nI na)) && F (cl (nI nb))); rw [cl_nI (j := na) (by omega), cl_nI (j := nb) (by omega), hq1, hq]; rfl), ht⟩) (fun q h => by cases h) dM_passes_72
      · have hq2 := bI_ne.mp cc
        refine lv_iload_n hx hb dM_passes_51 rfl (lv_at hl 1 rfl) ?_
        refine lv_bipush (v := nI 8) hx hb dM_passes_52 (by decide) ?_
        refine lv_icmp_lt (tgt := 67) hx hb dM_passes_54 (by decide) (fun _ => ?_) (fun c9 => absurd (by decide) c9)
        refine lv_iconst (v := nI 1) hx hb dM_passes_67 (by decide) ?_
        refine lv_goto (tgt := 72) hx hb dM_passes_68 (by decide) ?_
        rw [hQ]
        exact W.zret (v := nI 1) (ty := .boolean) hx hb hrt (by first | rfl | exact bI_nar _) (fun t ht hW => ⟨_, rfl, (by show _ = bI (F (cl (nI na)) && F (cl (nI nb))); rw [cl_nI (j := na) (by omega), cl_nI (j := nb) (by omega), hq1, hq2]; rfl), ht⟩) (fun q h => by cases h) dM_passes_72
  · have hw : inb n a = true := hw
    obtain ⟨na, ha, rfl⟩ := inb_t (by omega) hw
    have hcl : True := trivial
    refine lv_iload_n hx hb dM_passes_0 rfl (lv_at hl 1 rfl) ?_
    refine lv_iconst (v := nI 3) hx hb dM_passes_1 (by decide) ?_
    refine lv_icmp_lt (tgt := 11) hx hb dM_passes_2 (by decide) (fun c9 => absurd c9 (by decide)) (fun _ => ?_)
    refine lv_iload_n hx hb dM_passes_5 rfl (lv_at hl 1 rfl) ?_
    refine lv_bipush (v := nI 7) hx hb dM_passes_6 (by decide) ?_
    refine lv_icmp_ne (tgt := 13) hx hb dM_passes_8 (by decide) (fun _ => ?_) (fun c9 => absurd c9 (by decide))
    refine lv_iload_n hx hb dM_passes_13 rfl (lv_at hl 1 rfl) ?_
    refine lv_iconst (v := nI 3) hx hb dM_passes_14 (by decide) ?_
    refine lv_icmp_ne (tgt := 20) hx hb dM_passes_15 (by decide) (fun _ => ?_) (fun c9 => absurd c9 (by decide))
    refine lv_iload_n hx hb dM_passes_20 rfl (lv_at hl 1 rfl) ?_
    refine lv_bipush (v := nI 6) hx hb dM_passes_21 (by decide) ?_
    refine lv_icmp_ne (tgt := 33) hx hb dM_passes_23 (by decide) (fun c9 => absurd (by decide) c9) (fun _ => ?_)
    refine lv_aload_n hx hb dM_passes_26 rfl (lv_at hl 0 rfl) ?_
    refine va_get (D := G) (ci := 4) (v := .ref af) (C := RM) (T := TM) (N := 8) hx hb htA inM hown hK (ob_P hob) 0 rfl rfl 2 (by decide) (htA _ wd437) (fun _ h9 => h9) hf2 dM_passes_27 ?_
    refine lv_iload_n hx hb dM_passes_30 rfl (lv_at hl 2 rfl) ?_
    refine pw_zald hx hb hK hab 3 rfl (by omega) (by decide) dM_passes_31 ?_
    refine pw_ti (y := bI (F na)) (hF na ha) ?_
    rw [hQ]
    exact W.zret (v := bI (F na)) (ty := .boolean) hx hb hrt (by first | rfl | exact bI_nar _) (fun t ht hW => ⟨_, rfl, (by show bI (F na) = bI (F (cl (nI na))); rw [cl_nI (by omega)]), ht⟩) (fun q h => by cases h) dM_passes_32
  · refine lv_iload_n hx hb dM_passes_0 rfl (lv_at hl 1 rfl) ?_
    refine lv_iconst (v := nI 3) hx hb dM_passes_1 (by decide) ?_
    refine lv_icmp_lt (tgt := 11) hx hb dM_passes_2 (by decide) (fun c9 => absurd c9 (by decide)) (fun _ => ?_)
    refine lv_iload_n hx hb dM_passes_5 rfl (lv_at hl 1 rfl) ?_
    refine lv_bipush (v := nI 7) hx hb dM_passes_6 (by decide) ?_
    refine lv_icmp_ne (tgt := 13) hx hb dM_passes_8 (by decide) (fun c9 => absurd (by decide) c9) (fun _ => ?_)
    refine lv_iconst (v := nI 1) hx hb dM_passes_11 (by decide) ?_
    rw [hQ]
    exact W.zret (v := nI 1) (ty := .boolean) hx hb hrt (by first | rfl | exact bI_nar _) (fun t ht hW => ⟨_, rfl, rfl, ht⟩) (fun q h => by cases h) dM_passes_12
  · have hw : (inb n a && (inb n b && inb n c0)) = true := hw
    obtain ⟨hwa, hw2⟩ := and_t hw
    obtain ⟨hwb, hwc⟩ := and_t hw2
    obtain ⟨na, ha, rfl⟩ := inb_t (by omega) hwa
    obtain ⟨nb, hb1, rfl⟩ := inb_t (by omega) hwb
    obtain ⟨nc, hc, rfl⟩ := inb_t (by omega) hwc
    have hcl : True := trivial
    refine lv_iload_n hx hb dM_passes_0 rfl (lv_at hl 1 rfl) ?_
    refine lv_iconst (v := nI 3) hx hb dM_passes_1 (by decide) ?_
    refine lv_icmp_lt (tgt := 11) hx hb dM_passes_2 (by decide) (fun c9 => absurd c9 (by decide)) (fun _ => ?_)
    refine lv_iload_n hx hb dM_passes_5 rfl (lv_at hl 1 rfl) ?_
    refine lv_bipush (v := nI 7) hx hb dM_passes_6 (by decide) ?_
    refine lv_icmp_ne (tgt := 13) hx hb dM_passes_8 (by decide) (fun _ => ?_) (fun c9 => absurd c9 (by decide))
    refine lv_iload_n hx hb dM_passes_13 rfl (lv_at hl 1 rfl) ?_
    refine lv_iconst (v := nI 3) hx hb dM_passes_14 (by decide) ?_
    refine lv_icmp_ne (tgt := 20) hx hb dM_passes_15 (by decide) (fun _ => ?_) (fun c9 => absurd c9 (by decide))
    refine lv_iload_n hx hb dM_passes_20 rfl (lv_at hl 1 rfl) ?_
    refine lv_bipush (v := nI 6) hx hb dM_passes_21 (by decide) ?_
    refine lv_icmp_ne (tgt := 33) hx hb dM_passes_23 (by decide) (fun _ => ?_) (fun c9 => absurd c9 (by decide))
    refine lv_aload_n hx hb dM_passes_33 rfl (lv_at hl 0 rfl) ?_
    refine va_get (D := G) (ci := 4) (v := .ref af) (C := RM) (T := TM) (N := 8) hx hb htA inM hown hK (ob_P hob) 0 rfl rfl 2 (by decide) (htA _ wd437) (fun _ h9 => h9) hf2 dM_passes_34 ?_
    refine lv_iload_n hx hb dM_passes_37 rfl (lv_at hl 2 rfl) ?_
    refine pw_zald hx hb hK hab 3 rfl (by omega) (by decide) dM_passes_38 ?_
    refine pw_ti (y := bI (F na)) (hF na ha) ?_
    refine lv_if_eq (tgt := 71) hx hb dM_passes_39 (by decide) (fun cc => ?_) (fun cc => ?_)
    · have hq := bI_eq.mp cc
      refine lv_iconst (v := nI 0) hx hb dM_passes_71 (by decide) ?_
      rw [hQ]
      exact W.zret (v := nI 0) (ty := .boolean) hx hb hrt (by first | rfl | exact bI_nar _) (fun t ht hW => ⟨_, rfl, (by show _ = bI (F (cl (nI na)) && (F (cl (nI nb)) && F (cl (nI nc)))); rw [cl_nI (j := na) (by omega), cl_nI (j := nb) (by omega), cl_nI (j := nc) (by omega), hq]; rfl), ht⟩) (fun q h => by cases h) dM_passes_72
    · have hq1 := bI_ne.mp cc
      refine lv_aload_n hx hb dM_passes_42 rfl (lv_at hl 0 rfl) ?_
      refine va_get (D := G) (ci := 4) (v := .ref af) (C := RM) (T := TM) (N := 8) hx hb htA inM hown hK (ob_P hob) 0 rfl rfl 2 (by decide) (htA _ wd437) (fun _ h9 => h9) hf2 dM_passes_43 ?_
      refine lv_iload_n hx hb dM_passes_46 rfl (lv_at hl 3 rfl) ?_
      refine pw_zald hx hb hK hab 3 rfl (by omega) (by decide) dM_passes_47 ?_
      refine pw_ti (y := bI (F nb)) (hF nb hb1) ?_
      refine lv_if_eq (tgt := 71) hx hb dM_passes_48 (by decide) (fun cc => ?_) (fun cc => ?_)
      · have hq := bI_eq.mp cc
        refine lv_iconst (v := nI 0) hx hb dM_passes_71 (by decide) ?_
        rw [hQ]
        exact W.zret (v := nI 0) (ty := .boolean) hx hb hrt (by first | rfl | exact bI_nar _) (fun t ht hW => ⟨_, rfl, (by show _ = bI (F (cl (nI na)) && (F (cl (nI nb)) && F (cl (nI nc)))); rw [cl_nI (j := na) (by omega), cl_nI (j := nb) (by omega), cl_nI (j := nc) (by omega), hq1, hq]; rfl), ht⟩) (fun q h => by cases h) dM_passes_72
      · have hq2 := bI_ne.mp cc
        refine lv_iload_n hx hb dM_passes_51 rfl (lv_at hl 1 rfl) ?_
        refine lv_bipush (v := nI 8) hx hb dM_passes_52 (by decide) ?_
        refine lv_icmp_lt (tgt := 67) hx hb dM_passes_54 (by decide) (fun c9 => absurd c9 (by decide)) (fun _ => ?_)
        refine lv_aload_n hx hb dM_passes_57 rfl (lv_at hl 0 rfl) ?_
        refine va_get (D := G) (ci := 4) (v := .ref af) (C := RM) (T := TM) (N := 8) hx hb htA inM hown hK (ob_P hob) 0 rfl rfl 2 (by decide) (htA _ wd437) (fun _ h9 => h9) hf2 dM_passes_58 ?_
        refine lv_iload hx hb dM_passes_61 (lv_at hl 4 rfl) ?_
        refine pw_zald hx hb hK hab 3 rfl (by omega) (by decide) dM_passes_63 ?_
        refine pw_ti (y := bI (F nc)) (hF nc hc) ?_
        refine lv_if_eq (tgt := 71) hx hb dM_passes_64 (by decide) (fun cc => ?_) (fun cc => ?_)
        · have hq := bI_eq.mp cc
          refine lv_iconst (v := nI 0) hx hb dM_passes_71 (by decide) ?_
          rw [hQ]
          exact W.zret (v := nI 0) (ty := .boolean) hx hb hrt (by first | rfl | exact bI_nar _) (fun t ht hW => ⟨_, rfl, (by show _ = bI (F (cl (nI na)) && (F (cl (nI nb)) && F (cl (nI nc)))); rw [cl_nI (j := na) (by omega), cl_nI (j := nb) (by omega), cl_nI (j := nc) (by omega), hq1, hq2, hq]; rfl), ht⟩) (fun q h => by cases h) dM_passes_72
        · have hq3 := bI_ne.mp cc
          refine lv_iconst (v := nI 1) hx hb dM_passes_67 (by decide) ?_
          refine lv_goto (tgt := 72) hx hb dM_passes_68 (by decide) ?_
          rw [hQ]
          exact W.zret (v := nI 1) (ty := .boolean) hx hb hrt (by first | rfl | exact bI_nar _) (fun t ht hW => ⟨_, rfl, (by show _ = bI (F (cl (nI na)) && (F (cl (nI nb)) && F (cl (nI nc)))); rw [cl_nI (j := na) (by omega), cl_nI (j := nb) (by omega), cl_nI (j := nc) (by omega), hq1, hq2, hq3]; rfl), ht⟩) (fun q h => by cases h) dM_passes_72

set_option maxRecDepth 100000 in
set_option maxHeartbeats 4000000 in
theorem m_worked (l : Launch) (G : va_G) (cA : Nat → ClassId) (mo ao n : Nat) (fs : List Value) (fo : Nat → Int64) (j : Nat) (hj : j < 9) (a b c0 : Int32) (x : Nat) (hx0 : x < 64) (hf1 : fs[1]? = some (.ref ao)) (hn : n ≤ 50) (hw : wfN n j a b c0 = true) : Met l yM_worked wsM_worked ({ frames := 2, cells := 0, slots := 0, locals := 51 }) (PH G cA [.ref mo, .int (nI j), .int a, .int b, .int c0, .int (nI x)] (fun H => (ob G 4 mo fs H ∧ al (cA 0) ao 3200 fo H))) (vp_Sl (fun r => r = polF j (cl a) (cl b) (cl c0) (fun i k => fo (64 * i + k)) x)) 0 0 (fun _ => False) := by
  refine Met.ofW (cc := cM_worked) (maxL := 8) (ret := (some .long)) (by decide) rfl ?_
  intro p e s m args below meth c s₁ B hml hv
  obtain ⟨hav, hKN, hob, hal⟩ := hv
  have hK := hKN.1
  have hx := B.exec
  have hb := B.bytes
  have hrt := B.returns
  have htA : ∀ w ∈ ALL, w.before args s = true := fun w h => atoms_spec (ws := wsM_worked) B.pre w (List.mem_cons_of_mem _ h)
  have hown : s.vm.findClass RM = some m.cls := findClass_of_methodNamed B.named
  have hlocks := B.notSynchronized
  refine pw_nm (fun R Q hR hQ => ?_)
  refine pw_entry (vs := [.ref mo, .int (nI j), .int a, .int b, .int c0, .int (nI x)]) hav (Nat.le_of_ble_eq_true rfl) (fun ls hl => ?_)
  have hl : lv_has ls 8 [(0, .ref mo), (1, .int (nI j)), (2, .int a), (3, .int b), (4, .int c0), (5, .int (nI x))] := hl
  refine lv_lconst (v := 1) hx hb dM_worked_0 rfl ?_
  refine lv_iload hx hb dM_worked_1 (lv_at hl 5 rfl) ?_
  refine lv_lshl hx hb dM_worked_3 rfl ?_
  refine pw_tl (y := one x) rfl ?_
  refine lv_lstore (lv' := [(6, .long (one x)), (0, .ref mo), (1, .int (nI j)), (2, .int a), (3, .int b), (4, .int c0), (5, .int (nI x))]) hx hb dM_worked_4 hl (by decide) rfl (fun ls hl => ?_)
  refine lv_iload_n hx hb dM_worked_6 rfl (lv_at hl 2 rfl) ?_
  have hj9 : j = 0 ∨ j = 1 ∨ j = 2 ∨ j = 3 ∨ j = 4 ∨ j = 5 ∨ j = 6 ∨ j = 7 ∨ j = 8 := by omega
  rcases hj9 with rfl | rfl | rfl | rfl | rfl | rfl | rfl | rfl | rfl
  · refine lv_tableIn (tgt := 52) (off := 45) hx hb dM_worked_7 (by decide +kernel) (by decide +kernel) rfl (by decide) ?_
    refine lv_lconst (v := 0) hx hb dM_worked_52 rfl ?_
    rw [hQ]
    exact W.lret (v := 0) hx hb hrt (fun t ht hW => ⟨_, rfl, rfl, ht⟩) (fun q h => by cases h) dM_worked_53
  · refine lv_tableIn (tgt := 54) (off := 47) hx hb dM_worked_7 (by decide +kernel) (by decide +kernel) rfl (by decide) ?_
    refine lv_lload hx hb dM_worked_54 (lv_at hl 0 rfl) ?_
    rw [hQ]
    exact W.lret (v := one x) hx hb hrt (fun t ht hW => ⟨_, rfl, rfl, ht⟩) (fun q h => by cases h) dM_worked_56
  · have hw : (inb 3 a && inb 4 b) = true := hw
    obtain ⟨hwa, hwb⟩ := and_t hw
    obtain ⟨na, ha, rfl⟩ := inb_t (by decide) hwa
    obtain ⟨nb, hb1, rfl⟩ := inb_t (by decide) hwb
    refine lv_tableIn (tgt := 57) (off := 50) hx hb dM_worked_7 (by decide +kernel) (by decide +kernel) rfl (by decide) ?_
    refine lv_iload hx hb dM_worked_57 (lv_at hl 6 rfl) ?_
    refine lv_iload_n hx hb dM_worked_59 rfl (lv_at hl 3 rfl) ?_
    refine vp_callSi (va_Run.run (va_runS (As := [.int (nI x), .int (nI na)]) (rest := []) ⟨hx, hb, hml, hown, htA⟩ (m_value l G cA x hx0 na ha) (va_cwS 2 htA (gd_S wd488 wd489 wd28 wd490) rfl rfl rfl (by decide +kernel) (by rw [hR]; exact ⟨Nat.le_of_ble_eq_true rfl, Nat.le_of_ble_eq_true rfl⟩)) (pw_S hKN trivial) rfl rfl hl.1 rfl (lv_room (Nat.le_of_ble_eq_true rfl)) dM_worked_60 (by rw [hR]; exact ⟨Nat.le_of_ble_eq_true rfl, Nat.le_of_ble_eq_true rfl⟩))) (fun r1 hr1 => ?_)
    subst hr1
    refine lv_iload_n hx hb dM_worked_63 rfl (lv_at hl 4 rfl) ?_
    have hv := vl_lt x na
    refine lv_icmp_ne (tgt := 72) hx hb dM_worked_64 (by decide) (fun cc => ?_) (fun cc => ?_)
    · have hq : ¬ vl x na = nb := fun q => cc (by rw [q])
      refine lv_lconst (v := 0) hx hb dM_worked_72 rfl ?_
      rw [hQ]
      exact W.lret (v := 0) hx hb hrt (fun t ht hW => ⟨_, rfl, (by show _ = (if vl x (cl (nI na)) = cl (nI nb) then one x else 0); rw [cl_nI (j := na) (by omega), cl_nI (j := nb) (by omega), if_neg hq]), ht⟩) (fun q h => by cases h) dM_worked_73
    · have hq : vl x na = nb := (nI_eq (by omega) (by omega)).mp cc
      refine lv_lload hx hb dM_worked_67 (lv_at hl 0 rfl) ?_
      refine lv_goto (tgt := 73) hx hb dM_worked_69 (by decide) ?_
      rw [hQ]
      exact W.lret (v := one x) hx hb hrt (fun t ht hW => ⟨_, rfl, (by show _ = (if vl x (cl (nI na)) = cl (nI nb) then one x else 0); rw [cl_nI (j := na) (by omega), cl_nI (j := nb) (by omega), if_pos hq]), ht⟩) (fun q h => by cases h) dM_worked_73
  · have hw : (inb 3 a && inb 4 b) = true := hw
    obtain ⟨hwa, hwb⟩ := and_t hw
    obtain ⟨na, ha, rfl⟩ := inb_t (by decide) hwa
    obtain ⟨nb, hb1, rfl⟩ := inb_t (by decide) hwb
    refine lv_tableIn (tgt := 74) (off := 67) hx hb dM_worked_7 (by decide +kernel) (by decide +kernel) rfl (by decide) ?_
    refine lv_lconst (v := 1) hx hb dM_worked_74 rfl ?_
    refine lv_iload hx hb dM_worked_75 (lv_at hl 6 rfl) ?_
    refine lv_iload_n hx hb dM_worked_77 rfl (lv_at hl 3 rfl) ?_
    refine lv_iload_n hx hb dM_worked_78 rfl (lv_at hl 4 rfl) ?_
    refine vp_callSi (va_Run.run (va_runS (As := [.int (nI x), .int (nI na), .int (nI nb)]) (rest := [.long 1]) ⟨hx, hb, hml, hown, htA⟩ (m_with l G cA x hx0 na ha nb hb1) (va_cwS 3 htA (gd_S wd491 wd492 wd28 wd493) rfl rfl rfl (by decide +kernel) (by rw [hR]; exact ⟨Nat.le_of_ble_eq_true rfl, Nat.le_of_ble_eq_true rfl⟩)) (pw_S hKN trivial) rfl rfl hl.1 rfl (lv_room (Nat.le_of_ble_eq_true rfl)) dM_worked_79 (by rw [hR]; exact ⟨Nat.le_of_ble_eq_true rfl, Nat.le_of_ble_eq_true rfl⟩))) (fun r1 hr1 => ?_)
    subst hr1
    refine lv_lshl hx hb dM_worked_82 rfl ?_
    rw [hQ]
    exact W.lret (v := 1 <<< ((nI (setv x na nb)).toInt64 &&& 63)) hx hb hrt (fun t ht hW => ⟨_, rfl, (by show one (setv x na nb) = one (setv x (cl (nI na)) (cl (nI nb))); rw [cl_nI (j := na) (by omega), cl_nI (j := nb) (by omega)]), ht⟩) (fun q h => by cases h) dM_worked_83
  · have hw : (inb n a && inb n b) = true := hw
    obtain ⟨hwa, hwb⟩ := and_t hw
    obtain ⟨na, ha, rfl⟩ := inb_t (by omega) hwa
    obtain ⟨nb, hb1, rfl⟩ := inb_t (by omega) hwb
    have hcl : True := trivial
    refine lv_tableIn (tgt := 84) (off := 77) hx hb dM_worked_7 (by decide +kernel) (by decide +kernel) rfl (by decide) ?_
    refine lv_aload_n hx hb dM_worked_84 rfl (lv_at hl 1 rfl) ?_
    refine va_get (D := G) (ci := 4) (v := .ref ao) (C := RM) (T := TM) (N := 8) hx hb htA inM hown hK (ob_P hob) 0 rfl rfl 1 (by decide) (htA _ wd436) (fun _ h9 => h9) hf1 dM_worked_85 ?_
    refine lv_bipush (v := nI 64) hx hb dM_worked_88 (by decide) ?_
    refine lv_iload_n hx hb dM_worked_90 rfl (lv_at hl 3 rfl) ?_
    refine lv_imul hx hb dM_worked_91 ?_
    refine pw_ti (y := nI (64 * na)) (pk_mul _ _) ?_
    refine lv_iload hx hb dM_worked_92 (lv_at hl 6 rfl) ?_
    refine lv_iadd hx hb dM_worked_94 ?_
    refine pw_ti (y := nI ((64 * na) + x)) (nI_add _ _) ?_
    refine pw_lald hx hb hK hal 0 rfl (by omega) (by decide) dM_worked_95 ?_
    refine lv_aload_n hx hb dM_worked_96 rfl (lv_at hl 1 rfl) ?_
    refine va_get (D := G) (ci := 4) (v := .ref ao) (C := RM) (T := TM) (N := 8) hx hb htA inM hown hK (ob_P hob) 0 rfl rfl 1 (by decide) (htA _ wd436) (fun _ h9 => h9) hf1 dM_worked_97 ?_
    refine lv_bipush (v := nI 64) hx hb dM_worked_100 (by decide) ?_
    refine lv_iload_n hx hb dM_worked_102 rfl (lv_at hl 4 rfl) ?_
    refine lv_imul hx hb dM_worked_103 ?_
    refine pw_ti (y := nI (64 * nb)) (pk_mul _ _) ?_
    refine lv_iload hx hb dM_worked_104 (lv_at hl 6 rfl) ?_
    refine lv_iadd hx hb dM_worked_106 ?_
    refine pw_ti (y := nI ((64 * nb) + x)) (nI_add _ _) ?_
    refine pw_lald hx hb hK hal 0 rfl (by omega) (by decide) dM_worked_107 ?_
    refine lv_lor hx hb dM_worked_108 ?_
    rw [hQ]
    exact W.lret (v := (fo ((64 * na) + x)) ||| (fo ((64 * nb) + x))) hx hb hrt (fun t ht hW => ⟨_, rfl, (by show fo (64 * na + x) ||| fo (64 * nb + x) = fo (64 * cl (nI na) + x) ||| fo (64 * cl (nI nb) + x); rw [cl_nI (j := na) (by omega), cl_nI (j := nb) (by omega)]), ht⟩) (fun q h => by cases h) dM_worked_109
  · have hw : (inb n a && inb n b) = true := hw
    obtain ⟨hwa, hwb⟩ := and_t hw
    obtain ⟨na, ha, rfl⟩ := inb_t (by omega) hwa
    obtain ⟨nb, hb1, rfl⟩ := inb_t (by omega) hwb
    have hcl : True := trivial
    refine lv_tableIn (tgt := 110) (off := 103) hx hb dM_worked_7 (by decide +kernel) (by decide +kernel) rfl (by decide) ?_
    refine lv_aload_n hx hb dM_worked_110 rfl (lv_at hl 1 rfl) ?_
    refine lv_iload_n hx hb dM_worked_111 rfl (lv_at hl 4 rfl) ?_
    refine lv_aload_n hx hb dM_worked_112 rfl (lv_at hl 1 rfl) ?_
    refine va_get (D := G) (ci := 4) (v := .ref ao) (C := RM) (T := TM) (N := 8) hx hb htA inM hown hK (ob_P hob) 0 rfl rfl 1 (by decide) (htA _ wd436) (fun _ h9 => h9) hf1 dM_worked_113 ?_
    refine lv_bipush (v := nI 64) hx hb dM_worked_116 (by decide) ?_
    refine lv_iload_n hx hb dM_worked_118 rfl (lv_at hl 3 rfl) ?_
    refine lv_imul hx hb dM_worked_119 ?_
    refine pw_ti (y := nI (64 * na)) (pk_mul _ _) ?_
    refine lv_iload hx hb dM_worked_120 (lv_at hl 6 rfl) ?_
    refine lv_iadd hx hb dM_worked_122 ?_
    refine pw_ti (y := nI ((64 * na) + x)) (nI_add _ _) ?_
    refine pw_lald hx hb hK hal 0 rfl (by omega) (by decide) dM_worked_123 ?_
    refine vp_callSl (va_Run.run (va_runV (As := [.int (nI nb), .long (fo ((64 * na) + x))]) (rest := []) ⟨hx, hb, hml, hown, htA⟩ (m_all l G cA mo ao fs fo nb (fo (64 * na + x)) hf1 (by omega)) (cwV 2 htA (gd_V wd494 wd496 wd18 wd28 wd497) rfl rfl rfl (by decide +kernel) (by rw [hR]; exact ⟨Nat.le_of_ble_eq_true rfl, Nat.le_of_ble_eq_true rfl⟩)) (pw_V (ci := 4) (q := (RM, TM, 8)) hKN hob rfl ⟨hob, hal⟩) rfl rfl hl.1 rfl (lv_room (Nat.le_of_ble_eq_true rfl)) dM_worked_124 (by rw [hR]; exact ⟨Nat.le_of_ble_eq_true rfl, Nat.le_of_ble_eq_true rfl⟩))) (fun r1 hr1 => ?_)
    subst hr1
    rw [hQ]
    exact W.lret (v := gf (fun k => fo (64 * nb + k)) (fo (64 * na + x)) 64) hx hb hrt (fun t ht hW => ⟨_, rfl, (by show _ = gf (fun k => fo (64 * cl (nI nb) + k)) (fo (64 * cl (nI na) + x)) 64; rw [cl_nI (j := na) (by omega), cl_nI (j := nb) (by omega)]), ht⟩) (fun q h => by cases h) dM_worked_127
  · have hw : inb n a = true := hw
    obtain ⟨na, ha, rfl⟩ := inb_t (by omega) hw
    have hcl : True := trivial
    refine lv_tableIn (tgt := 128) (off := 121) hx hb dM_worked_7 (by decide +kernel) (by decide +kernel) rfl (by decide) ?_
    refine lv_aload_n hx hb dM_worked_128 rfl (lv_at hl 1 rfl) ?_
    refine lv_iload_n hx hb dM_worked_129 rfl (lv_at hl 3 rfl) ?_
    refine lv_iload hx hb dM_worked_130 (lv_at hl 6 rfl) ?_
    refine vp_callSl (va_Run.run (va_runV (As := [.int (nI na), .int (nI x)]) (rest := []) ⟨hx, hb, hml, hown, htA⟩ (m_star l G cA mo ao fs fo na x hf1 (by omega)) (cwV 2 htA (gd_V wd498 wd500 wd19 wd28 wd501) rfl rfl rfl (by decide +kernel) (by rw [hR]; exact ⟨Nat.le_of_ble_eq_true rfl, Nat.le_of_ble_eq_true rfl⟩)) (pw_V (ci := 4) (q := (RM, TM, 8)) hKN hob rfl ⟨hob, hal⟩) rfl rfl hl.1 rfl (lv_room (Nat.le_of_ble_eq_true rfl)) dM_worked_132 (by rw [hR]; exact ⟨Nat.le_of_ble_eq_true rfl, Nat.le_of_ble_eq_true rfl⟩))) (fun r1 hr1 => ?_)
    subst hr1
    rw [hQ]
    exact W.lret (v := st (fun k => fo (64 * na + k)) x 64) hx hb hrt (fun t ht hW => ⟨_, rfl, (by show _ = st (fun k => fo (64 * cl (nI na) + k)) x 64; rw [cl_nI (j := na) (by omega)]), ht⟩) (fun q h => by cases h) dM_worked_135
  · have hw : inb n a = true := hw
    obtain ⟨na, ha, rfl⟩ := inb_t (by omega) hw
    have hcl : True := trivial
    refine lv_tableIn (tgt := 136) (off := 129) hx hb dM_worked_7 (by decide +kernel) (by decide +kernel) rfl (by decide) ?_
    refine lv_aload_n hx hb dM_worked_136 rfl (lv_at hl 1 rfl) ?_
    refine va_get (D := G) (ci := 4) (v := .ref ao) (C := RM) (T := TM) (N := 8) hx hb htA inM hown hK (ob_P hob) 0 rfl rfl 1 (by decide) (htA _ wd436) (fun _ h9 => h9) hf1 dM_worked_137 ?_
    refine lv_bipush (v := nI 64) hx hb dM_worked_140 (by decide) ?_
    refine lv_iload_n hx hb dM_worked_142 rfl (lv_at hl 3 rfl) ?_
    refine lv_imul hx hb dM_worked_143 ?_
    refine pw_ti (y := nI (64 * na)) (pk_mul _ _) ?_
    refine lv_iload hx hb dM_worked_144 (lv_at hl 6 rfl) ?_
    refine lv_iadd hx hb dM_worked_146 ?_
    refine pw_ti (y := nI ((64 * na) + x)) (nI_add _ _) ?_
    refine pw_lald hx hb hK hal 0 rfl (by omega) (by decide) dM_worked_147 ?_
    refine lv_lconst (v := 0) hx hb dM_worked_148 rfl ?_
    refine W.lcmp hx hb dM_worked_149 ?_
    refine lv_if_ne (tgt := 158) hx hb dM_worked_150 (by decide) (fun cc => ?_) (fun cc => ?_)
    · have hq : ¬ fo (64 * na + x) = 0 := fun q => cc ((cmp0 _ _).mpr q)
      refine lv_lconst (v := 0) hx hb dM_worked_158 rfl ?_
      rw [hQ]
      exact W.lret (v := 0) hx hb hrt (fun t ht hW => ⟨_, rfl, (by show _ = (if fo (64 * cl (nI na) + x) = 0 then one x else 0); rw [cl_nI (j := na) (by omega), if_neg hq]), ht⟩) (fun q h => by cases h) dM_worked_159
    · have hq := (cmp0 _ _).mp cc
      refine lv_lload hx hb dM_worked_153 (lv_at hl 0 rfl) ?_
      refine lv_goto (tgt := 159) hx hb dM_worked_155 (by decide) ?_
      rw [hQ]
      exact W.lret (v := one x) hx hb hrt (fun t ht hW => ⟨_, rfl, (by show _ = (if fo (64 * cl (nI na) + x) = 0 then one x else 0); rw [cl_nI (j := na) (by omega), if_pos hq]), ht⟩) (fun q h => by cases h) dM_worked_159
  · have hw : (inb n a && (inb n b && inb n c0)) = true := hw
    obtain ⟨hwa, hw2⟩ := and_t hw
    obtain ⟨hwb, hwc⟩ := and_t hw2
    obtain ⟨na, ha, rfl⟩ := inb_t (by omega) hwa
    obtain ⟨nb, hb1, rfl⟩ := inb_t (by omega) hwb
    obtain ⟨nc, hc, rfl⟩ := inb_t (by omega) hwc
    have hcl : True := trivial
    refine lv_tableOut (tgt := 160) hx hb dM_worked_7 (by decide +kernel) (by decide) ?_
    refine lv_aload_n hx hb dM_worked_160 rfl (lv_at hl 1 rfl) ?_
    refine va_get (D := G) (ci := 4) (v := .ref ao) (C := RM) (T := TM) (N := 8) hx hb htA inM hown hK (ob_P hob) 0 rfl rfl 1 (by decide) (htA _ wd436) (fun _ h9 => h9) hf1 dM_worked_161 ?_
    refine lv_bipush (v := nI 64) hx hb dM_worked_164 (by decide) ?_
    refine lv_aload_n hx hb dM_worked_166 rfl (lv_at hl 1 rfl) ?_
    refine va_get (D := G) (ci := 4) (v := .ref ao) (C := RM) (T := TM) (N := 8) hx hb htA inM hown hK (ob_P hob) 0 rfl rfl 1 (by decide) (htA _ wd436) (fun _ h9 => h9) hf1 dM_worked_167 ?_
    refine lv_bipush (v := nI 64) hx hb dM_worked_170 (by decide) ?_
    refine lv_iload_n hx hb dM_worked_172 rfl (lv_at hl 3 rfl) ?_
    refine lv_imul hx hb dM_worked_173 ?_
    refine pw_ti (y := nI (64 * na)) (pk_mul _ _) ?_
    refine lv_iload hx hb dM_worked_174 (lv_at hl 6 rfl) ?_
    refine lv_iadd hx hb dM_worked_176 ?_
    refine pw_ti (y := nI ((64 * na) + x)) (nI_add _ _) ?_
    refine pw_lald hx hb hK hal 0 rfl (by omega) (by decide) dM_worked_177 ?_
    refine lv_lconst (v := 0) hx hb dM_worked_178 rfl ?_
    refine W.lcmp hx hb dM_worked_179 ?_
    refine lv_if_eq (tgt := 187) hx hb dM_worked_180 (by decide) (fun cc => ?_) (fun cc => ?_)
    · have hq := (cmp0 _ _).mp cc
      refine lv_iload hx hb dM_worked_187 (lv_at hl 5 rfl) ?_
      refine lv_imul hx hb dM_worked_189 ?_
      refine pw_ti (y := nI (64 * nc)) (pk_mul _ _) ?_
      refine lv_iload hx hb dM_worked_190 (lv_at hl 6 rfl) ?_
      refine lv_iadd hx hb dM_worked_192 ?_
      refine pw_ti (y := nI ((64 * nc) + x)) (nI_add _ _) ?_
      refine pw_lald hx hb hK hal 0 rfl (by omega) (by decide) dM_worked_193 ?_
      rw [hQ]
      exact W.lret (v := fo ((64 * nc) + x)) hx hb hrt (fun t ht hW => ⟨_, rfl, (by show _ = (if fo (64 * cl (nI na) + x) = 0 then fo (64 * cl (nI nc) + x) else fo (64 * cl (nI nb) + x)); rw [cl_nI (j := na) (by omega), cl_nI (j := nb) (by omega), cl_nI (j := nc) (by omega), if_pos hq]), ht⟩) (fun q h => by cases h) dM_worked_194
    · have hq : ¬ fo (64 * na + x) = 0 := fun q => cc ((cmp0 _ _).mpr q)
      refine lv_iload_n hx hb dM_worked_183 rfl (lv_at hl 4 rfl) ?_
      refine lv_goto (tgt := 189) hx hb dM_worked_184 (by decide) ?_
      refine lv_imul hx hb dM_worked_189 ?_
      refine pw_ti (y := nI (64 * nb)) (pk_mul _ _) ?_
      refine lv_iload hx hb dM_worked_190 (lv_at hl 6 rfl) ?_
      refine lv_iadd hx hb dM_worked_192 ?_
      refine pw_ti (y := nI ((64 * nb) + x)) (nI_add _ _) ?_
      refine pw_lald hx hb hK hal 0 rfl (by omega) (by decide) dM_worked_193 ?_
      rw [hQ]
      exact W.lret (v := fo ((64 * nb) + x)) hx hb hrt (fun t ht hW => ⟨_, rfl, (by show _ = (if fo (64 * cl (nI na) + x) = 0 then fo (64 * cl (nI nc) + x) else fo (64 * cl (nI nb) + x)); rw [cl_nI (j := na) (by omega), cl_nI (j := nb) (by omega), cl_nI (j := nc) (by omega), if_neg hq]), ht⟩) (fun q h => by cases h) dM_worked_194
end
section
theorem st_ext {f g : Nat → Int64} {p : Nat} (h : ∀ i, i < 64 → f i = g i) : ∀ n, st f p n = st g p n := by
  intro n
  induction n with
  | zero => rfl
  | succ n ih =>
    show st f p n ||| gf f (st f p n) 64 = st g p n ||| gf g (st g p n) 64
    rw [ih, gf_ext h]
theorem nw_ext {f g : Nat → Int64} {p : Nat} (h : ∀ i, i < 64 → f i = g i) : ∀ n, nw f p n = nw g p n := by
  intro n
  induction n with
  | zero => rfl
  | succ n ih =>
    show gf f (nw f p n) 64 = gf g (nw g p n) 64
    rw [ih, gf_ext h]
theorem polF_ext {n j : Nat} {a b c : Int32} {O P : Nat → Nat → Int64} (hn : n ≤ 50) (hw : wfN n j a b c = true) (h : ∀ i, i < n → ∀ k, k < 64 → O i k = P i k) {x : Nat} (hx : x < 64) : polF j (cl a) (cl b) (cl c) O x = polF j (cl a) (cl b) (cl c) P x := by
  have key : ∀ v : Int32, inb n v = true → cl v < n := fun v hv => by
    obtain ⟨y, hy, rfl⟩ := inb_t (by omega) hv
    rw [cl_nI (by omega)]
    exact hy
  match j, hw with
  | 0, _ => show (0 : Int64) = 0; exact rfl
  | 1, _ => show one x = one x; exact rfl
  | 2, _ => show (if vl x (cl a) = cl b then one x else 0) = (if vl x (cl a) = cl b then one x else 0); exact rfl
  | 3, _ => show one (setv x (cl a) (cl b)) = one (setv x (cl a) (cl b)); exact rfl
  | 4, hw =>
    obtain ⟨h1, h2⟩ := and_t hw
    show O (cl a) x ||| O (cl b) x = P (cl a) x ||| P (cl b) x
    rw [h _ (key a h1) x hx, h _ (key b h2) x hx]
  | 5, hw =>
    obtain ⟨h1, h2⟩ := and_t hw
    show gf (O (cl b)) (O (cl a) x) 64 = gf (P (cl b)) (P (cl a) x) 64
    rw [h _ (key a h1) x hx, gf_ext (h _ (key b h2))]
  | 6, hw =>
    show st (O (cl a)) x 64 = st (P (cl a)) x 64
    exact st_ext (h _ (key a hw)) 64
  | 7, hw =>
    show (if O (cl a) x = 0 then one x else 0) = (if P (cl a) x = 0 then one x else 0)
    rw [h _ (key a hw) x hx]
  | 8, hw =>
    obtain ⟨h1, h2⟩ := and_t hw
    obtain ⟨h2, h3⟩ := and_t h2
    show (if O (cl a) x = 0 then O (cl c) x else O (cl b) x) = (if P (cl a) x = 0 then P (cl c) x else P (cl b) x)
    rw [h _ (key a h1) x hx, h _ (key b h2) x hx, h _ (key c h3) x hx]
  | j + 9, hw => exact absurd hw (by show ¬ false = true; decide)
theorem eqO_sym {f g : Nat → Int64} : eqO f g = eqO g f := by
  apply bool_iff
  unfold eqO
  rw [eqN_iff, eqN_iff]
  exact ⟨fun h k hk => (h k hk).symm, fun h k hk => (h k hk).symm⟩
theorem isN_t {O : Nat → Nat → Int64} {n : Nat} (h : ∀ j, j < n → eqO (O j) (O n) = false) : isN O n = true := by
  unfold isN
  rw [decide_eq_true_eq]
  exact h
theorem isN_f {O : Nat → Nat → Int64} {n j : Nat} (hj : j < n) (h : eqO (O j) (O n) = true) : isN O n = false := by
  unfold isN
  rw [decide_eq_false_iff_not]
  intro q
  rw [q j hj] at h
  cases h
theorem dct_t {O : Nat → Nat → Int64} {n : Nat} (h : isN O n = true) : dct O n + 1 = dct O (n + 1) := by
  show _ = dct O n + (if isN O n = true then 1 else 0)
  rw [if_pos h]
theorem dct_f {O : Nat → Nat → Int64} {n : Nat} (h : isN O n = false) : dct O n = dct O (n + 1) := by
  show _ = dct O n + (if isN O n = true then 1 else 0)
  rw [if_neg (by rw [h]; decide)]
  rfl
def mP (G : va_G) (cA : Nat → ClassId) (mo ao af sa ea : Nat) (rel : Int32 → Int32 → Nat → (Nat → Int64) → (Nat → Int32) → Prop) : Array Value → State → Outcome → State → Prop := fun _ st o t =>
  ∃ (r th : Int32) (n' : Nat) (fo' : Nat → Int64) (fb' : Nat → Int32), o = .returned (some (.int r)) ∧ rel r th n' fo' fb' ∧ mV G cA mo ao af sa ea n' fo' fb' th t.heap ∧ t.heap.size = st.heap.size ∧ ∀ q, q ≠ mo → q ≠ ao → q ≠ af → q ≠ sa → q ≠ ea → t.heap[q]? = st.heap[q]?
def mY (mo ao af sa ea : Nat) : Nat → Prop := fun q => q = mo ∨ q = ao ∨ q = af ∨ q = sa ∨ q = ea
end
section
set_option maxRecDepth 100000 in
set_option maxHeartbeats 4000000 in
theorem m_hops (l : Launch) (G : va_G) (cA : Nat → ClassId) (mo ao af sa ea n : Nat) (fo : Nat → Int64) (fb : Nat → Int32) (v q : Int32) (z : Int64) : Met l yM_hops wsM_hops ({ frames := 2, cells := 0, slots := 0, locals := 43 }) (PH G cA [.ref mo, .int v, .int q, .long z] (fun H => (mA mo ao af sa ea ∧ n ≤ 50 ∧ ∃ th, mV G cA mo ao af sa ea n fo fb th H))) (mI G cA mo ao af sa ea n fo fb (fun r th => (inb n v = false ∧ th = nI 1) ∨ (inb n v = true ∧ inb 64 q = false ∧ th = nI 2) ∨ (∃ a x, a < n ∧ x < 64 ∧ v = nI a ∧ q = nI x ∧ th = nI 0 ∧ hopR (fun k => fo (64 * a + k)) x z r))) 0 0 (mW mo sa ea) := by
  refine Met.ofW (cc := cM_hops) (maxL := 8) (ret := (some .int)) (by decide) rfl ?_
  intro p e s m args below meth c s₁ B hml hv
  obtain ⟨hav, hKN, hA, hn, th0, lw, hg, fS, fE, hob, hal, hab, hsl, hel⟩ := hv
  have hK := hKN.1
  have hx := B.exec
  have hb := B.bytes
  have hrt := B.returns
  have htA : ∀ w ∈ ALL, w.before args s = true := fun w h => atoms_spec (ws := wsM_hops) B.pre w (List.mem_cons_of_mem _ h)
  have hown : s.vm.findClass RM = some m.cls := findClass_of_methodNamed B.named
  have hlocks := B.notSynchronized
  refine pw_nm (fun R Q hR hQ => ?_)
  refine pw_entry (vs := [.ref mo, .int v, .int q, .long z]) hav (Nat.le_of_ble_eq_true rfl) (fun ls hl => ?_)
  have hl : lv_has ls 8 [(0, .ref mo), (1, .int v), (2, .int q), (3, .long z)] := hl
  have hz : s.heap.size = s.heap.size := rfl
  have hk : ∀ q, q ≠ mo → q ≠ sa → q ≠ ea → s.heap[q]? = s.heap[q]? := fun _ _ _ _ => rfl
  have hL : ∀ z ∈ ([] : List Loc), mW mo sa ea z.base := fun _ h => by cases h
  refine lv_aload_n hx hb dM_hops_0 rfl (lv_at hl 0 rfl) ?_
  refine lv_iconst (v := nI 0) hx hb dM_hops_1 (by decide) ?_
  refine pw_put (ci := 4) (C := RM) (T := TM) (N := 8) (ty := .int) (F := mW mo sa ea) hx hb htA inM tyM tyM_ok nmM hown hK hob rfl 0 (by decide) (htA _ wd435) (fun _ h9 => h9) rfl (by decide +kernel) rfl rfl (Nat.le_of_ble_eq_true rfl) hL (Or.inl rfl) dM_hops_2 (fun H1 lc2 hob1 hz1 hk1 hL => ?_)
  have hob : ob G 4 mo (mF (nI 0) ao af n lw hg sa ea) H1 := hob1
  have hal := al_k hal (hk1 ao hA.1)
  have hab := ai_k hab (hk1 af hA.2.1)
  have hsl := ai_k hsl (hk1 sa hA.2.2.1)
  have hel := ai_k hel (hk1 ea hA.2.2.2.1)
  have hk : ∀ q, q ≠ mo → q ≠ sa → q ≠ ea → H1[q]? = s.heap[q]? := fun q h1 h2 h3 => (hk1 q h1).trans (hk q h1 h2 h3)
  have hz := hz1.trans hz
  refine lv_aload_n hx hb dM_hops_5 rfl (lv_at hl 0 rfl) ?_
  refine lv_iload_n hx hb dM_hops_6 rfl (lv_at hl 1 rfl) ?_
  refine vp_callSi (va_Run.run (va_runV (As := [.int v]) (rest := []) ⟨hx, hb, hml, hown, htA⟩ (m_made l G cA mo n (mF (nI 0) ao af n lw hg sa ea) v rfl (by omega)) (cwV 1 htA (gd_V wd476 wd478 wd15 wd28 wd479) rfl rfl rfl (by decide +kernel) (by rw [hR]; exact ⟨Nat.le_of_ble_eq_true rfl, Nat.le_of_ble_eq_true rfl⟩)) (pw_V (ci := 4) (q := (RM, TM, 8)) hKN hob rfl hob) rfl rfl hl.1 rfl (lv_room (Nat.le_of_ble_eq_true rfl)) dM_hops_7 (by rw [hR]; exact ⟨Nat.le_of_ble_eq_true rfl, Nat.le_of_ble_eq_true rfl⟩))) (fun r3 hr3 => ?_)
  subst hr3
  refine lv_if_ne (tgt := 19) hx hb dM_hops_10 (by decide) (fun c1 => ?_) (fun c1 => ?_)
  · have hq := bI_ne.mp c1
    obtain ⟨a, ha, rfl⟩ := inb_t (by omega) hq
    refine lv_iload_n hx hb dM_hops_19 rfl (lv_at hl 2 rfl) ?_
    refine lv_iconst (v := nI 0) hx hb dM_hops_20 (by decide) ?_
    refine lv_bipush (v := nI 63) hx hb dM_hops_21 (by decide) ?_
    refine vp_callSi (va_Run.run (va_runS (As := [.int q, .int (nI 0), .int (nI 63)]) (rest := []) ⟨hx, hb, hml, hown, htA⟩ (m_in l G cA q (nI 0) (nI 63)) (va_cwS 3 htA (gd_S wd473 wd474 wd28 wd475) rfl rfl rfl (by decide +kernel) (by rw [hR]; exact ⟨Nat.le_of_ble_eq_true rfl, Nat.le_of_ble_eq_true rfl⟩)) (pw_S hKN trivial) rfl rfl hl.1 rfl (lv_room (Nat.le_of_ble_eq_true rfl)) dM_hops_23 (by rw [hR]; exact ⟨Nat.le_of_ble_eq_true rfl, Nat.le_of_ble_eq_true rfl⟩))) (fun r4 hr4 => ?_)
    subst hr4
    refine pw_ti (y := bI (inb 64 q)) (by rw [in_63 q 63 64 rfl (by decide)]) ?_
    refine lv_if_ne (tgt := 35) hx hb dM_hops_26 (by decide) (fun c2 => ?_) (fun c2 => ?_)
    · obtain ⟨x, hx0, rfl⟩ := inb_t (by decide) (bI_ne.mp c2)
      refine lv_lconst (v := 1) hx hb dM_hops_35 rfl ?_
      refine lv_iload_n hx hb dM_hops_36 rfl (lv_at hl 2 rfl) ?_
      refine lv_lshl hx hb dM_hops_37 rfl ?_
      refine pw_tl (y := nw (fun k => fo (64 * a + k)) x 0) rfl ?_
      refine lv_lstore (lv' := [(5, .long (nw (fun k => fo (64 * a + k)) x 0)), (0, .ref mo), (1, .int (nI a)), (2, .int (nI x)), (3, .long z)]) hx hb dM_hops_38 hl (by decide) rfl (fun ls hl => ?_)
      refine lv_iconst (v := nI 0) hx hb dM_hops_40 (by decide) ?_
      refine lv_istore (lv' := [(7, .int (nI 0)), (5, .long (nw (fun k => fo (64 * a + k)) x 0)), (0, .ref mo), (1, .int (nI a)), (2, .int (nI x)), (3, .long z)]) hx hb dM_hops_41 hl (by decide) rfl (fun ls hl => ?_)
      have lp : ∀ (k i : Nat), i + k = 65 → (∀ j, j < i → nw (fun k => fo (64 * a + k)) x j &&& z = 0) → ∀ ls : Array Slot, lv_has ls 8 [(0, .ref mo), (1, .int (nI a)), (3, .long z), (5, .long (nw (fun k => fo (64 * a + k)) x i)), (7, .int (nI i))] → W p l e R s m args below meth c H1 lc2 0 0 Q (F0 m 43 ls []) := by
        intro k
        induction k with
        | zero =>
          intro i hik hinv ls hl
          have hi : i = 65 := by omega
          subst hi
          refine lv_iload hx hb dM_hops_43 (lv_at hl 4 rfl) ?_
          refine lv_bipush (v := nI 65) hx hb dM_hops_45 (by decide) ?_
          refine lv_icmp_ge (tgt := 77) hx hb dM_hops_47 (by decide) (fun _ => ?_) (fun c9 => absurd (Int32.le_refl _) c9)
          refine lv_iconst (v := (-1)) hx hb dM_hops_77 (by decide) ?_
          rw [hQ]
          exact W.iret (v := (-1)) hx hb hrt (fun t ht hW => ⟨_, (nI 0), rfl, (Or.inr (Or.inr ⟨a, x, ha, hx0, rfl, rfl, rfl, hop_all hx0 hinv⟩)), ⟨lw, hg, fS, fE, by rw [ht]; exact ⟨hob, hal, hab, hsl, hel⟩⟩, by rw [ht]; exact hz, by rw [ht]; exact hk⟩) hL dM_hops_78
        | succ k ih =>
          intro i hik hinv ls hl
          have hi : i < 65 := by omega
          refine lv_iload hx hb dM_hops_43 (lv_at hl 4 rfl) ?_
          refine lv_bipush (v := nI 65) hx hb dM_hops_45 (by decide) ?_
          refine lv_icmp_ge (tgt := 77) hx hb dM_hops_47 (by decide) (fun c9 => absurd c9 (nI_ge hi (by decide))) (fun _ => ?_)
          refine lv_lload hx hb dM_hops_50 (lv_at hl 3 rfl) ?_
          refine lv_lload_n hx hb dM_hops_52 rfl (lv_at hl 2 rfl) ?_
          refine lv_land hx hb dM_hops_53 ?_
          refine lv_lconst (v := 0) hx hb dM_hops_54 rfl ?_
          refine W.lcmp hx hb dM_hops_55 ?_
          refine lv_if_eq (tgt := 62) hx hb dM_hops_56 (by decide) (fun c3 => ?_) (fun c3 => ?_)
          · have hq3 := (cmp0 _ _).mp c3
            refine lv_aload_n hx hb dM_hops_62 rfl (lv_at hl 0 rfl) ?_
            refine lv_iload_n hx hb dM_hops_63 rfl (lv_at hl 1 rfl) ?_
            refine lv_lload hx hb dM_hops_64 (lv_at hl 3 rfl) ?_
            refine vp_callSl (va_Run.run (va_runV (As := [.int (nI a), .long (nw (fun k => fo (64 * a + k)) x i)]) (rest := []) ⟨hx, hb, hml, hown, htA⟩ (m_all l G cA mo ao (mF (nI 0) ao af n lw hg sa ea) fo a (nw (fun k => fo (64 * a + k)) x i) rfl (by omega)) (cwV 2 htA (gd_V wd494 wd496 wd18 wd28 wd497) rfl rfl rfl (by decide +kernel) (by rw [hR]; exact ⟨Nat.le_of_ble_eq_true rfl, Nat.le_of_ble_eq_true rfl⟩)) (pw_V (ci := 4) (q := (RM, TM, 8)) hKN hob rfl ⟨hob, hal⟩) rfl rfl hl.1 rfl (lv_room (Nat.le_of_ble_eq_true rfl)) dM_hops_66 (by rw [hR]; exact ⟨Nat.le_of_ble_eq_true rfl, Nat.le_of_ble_eq_true rfl⟩))) (fun r5 hr5 => ?_)
            subst hr5
            refine pw_tl (y := nw (fun k => fo (64 * a + k)) x (i + 1)) rfl ?_
            refine lv_lstore (lv' := [(5, .long (nw (fun k => fo (64 * a + k)) x (i + 1))), (0, .ref mo), (1, .int (nI a)), (3, .long z), (7, .int (nI i))]) hx hb dM_hops_69 hl (by decide) rfl (fun ls hl => ?_)
            refine lv_iinc (v := nI (i + 1)) (lv' := [(7, .int (nI (i + 1))), (5, .long (nw (fun k => fo (64 * a + k)) x (i + 1))), (0, .ref mo), (1, .int (nI a)), (3, .long z)]) hx hb dM_hops_71 hl (k := 4) rfl (nI_1 i) (by decide) rfl (fun ls hl => ?_)
            refine lv_goto (tgt := 43) hx hb dM_hops_74 (by decide) ?_
            exact ih (i + 1) (by omega) (lt_s hinv hq3) ls (lv_sub hl [2, 3, 4, 1, 0] rfl)
          · refine lv_iload hx hb dM_hops_59 (lv_at hl 4 rfl) ?_
            rw [hQ]
            exact W.iret (v := nI i) hx hb hrt (fun t ht hW => ⟨_, (nI 0), rfl, (Or.inr (Or.inr ⟨a, x, ha, hx0, rfl, rfl, rfl, Or.inl ⟨i, hi, rfl, fun q => c3 ((cmp0 _ _).mpr q), hinv⟩⟩)), ⟨lw, hg, fS, fE, by rw [ht]; exact ⟨hob, hal, hab, hsl, hel⟩⟩, by rw [ht]; exact hz, by rw [ht]; exact hk⟩) hL dM_hops_61
      exact lp (65) 0 (by omega) lt_0 ls (lv_sub hl [2, 3, 5, 1, 0] rfl)
    · have hq2 := bI_eq.mp c2
      refine lv_aload_n hx hb dM_hops_29 rfl (lv_at hl 0 rfl) ?_
      refine lv_iconst (v := nI 2) hx hb dM_hops_30 (by decide) ?_
      refine pw_call (F := mW mo sa ea) (va_runV (As := [.int (nI 2)]) (rest := []) ⟨hx, hb, hml, hown, htA⟩ (m_raise l G cA mo (mF (nI 0) ao af n lw hg sa ea) (nI 2)) (cwV 1 htA (gd_V wd480 wd482 wd16 wd28 wd483) rfl rfl rfl (by decide +kernel) (by rw [hR]; exact ⟨Nat.le_of_ble_eq_true rfl, Nat.le_of_ble_eq_true rfl⟩)) (pw_V (ci := 4) (q := (RM, TM, 8)) hKN hob rfl ⟨hob, Nat.zero_lt_succ _⟩) rfl rfl hl.1 rfl (lv_room (Nat.le_of_ble_eq_true rfl)) dM_hops_31 (by rw [hR]; exact ⟨Nat.le_of_ble_eq_true rfl, Nat.le_of_ble_eq_true rfl⟩)) hL (fun q h => Or.inl h) (fun v9 st9 t9 lc6 h0 ha9 hL hq9 => ?_)
      obtain ⟨hv9, hob1, hz1, hk1⟩ := hq9
      cases hv9
      rw [h0] at hz1 hk1
      generalize t9.heap = H5 at hob1 hz1 hk1 ⊢
      have hob : ob G 4 mo (mF (nI 2) ao af n lw hg sa ea) H5 := hob1
      have hal := al_k hal (hk1 ao hA.1)
      have hab := ai_k hab (hk1 af hA.2.1)
      have hsl := ai_k hsl (hk1 sa hA.2.2.1)
      have hel := ai_k hel (hk1 ea hA.2.2.2.1)
      have hk : ∀ q, q ≠ mo → q ≠ sa → q ≠ ea → H5[q]? = s.heap[q]? := fun q h1 h2 h3 => (hk1 q h1).trans (hk q h1 h2 h3)
      have hz := hz1.trans hz
      rw [hQ]
      exact W.iret (v := 0) hx hb hrt (fun t ht hW => ⟨_, (nI 2), rfl, (Or.inr (Or.inl ⟨hq, hq2, rfl⟩)), ⟨lw, hg, fS, fE, by rw [ht]; exact ⟨hob, hal, hab, hsl, hel⟩⟩, by rw [ht]; exact hz, by rw [ht]; exact hk⟩) hL dM_hops_34
  · have hq := bI_eq.mp c1
    refine lv_aload_n hx hb dM_hops_13 rfl (lv_at hl 0 rfl) ?_
    refine lv_iconst (v := nI 1) hx hb dM_hops_14 (by decide) ?_
    refine pw_call (F := mW mo sa ea) (va_runV (As := [.int (nI 1)]) (rest := []) ⟨hx, hb, hml, hown, htA⟩ (m_raise l G cA mo (mF (nI 0) ao af n lw hg sa ea) (nI 1)) (cwV 1 htA (gd_V wd480 wd482 wd16 wd28 wd483) rfl rfl rfl (by decide +kernel) (by rw [hR]; exact ⟨Nat.le_of_ble_eq_true rfl, Nat.le_of_ble_eq_true rfl⟩)) (pw_V (ci := 4) (q := (RM, TM, 8)) hKN hob rfl ⟨hob, Nat.zero_lt_succ _⟩) rfl rfl hl.1 rfl (lv_room (Nat.le_of_ble_eq_true rfl)) dM_hops_15 (by rw [hR]; exact ⟨Nat.le_of_ble_eq_true rfl, Nat.le_of_ble_eq_true rfl⟩)) hL (fun q h => Or.inl h) (fun v9 st9 t9 lc5 h0 ha9 hL hq9 => ?_)
    obtain ⟨hv9, hob1, hz1, hk1⟩ := hq9
    cases hv9
    rw [h0] at hz1 hk1
    generalize t9.heap = H4 at hob1 hz1 hk1 ⊢
    have hob : ob G 4 mo (mF (nI 1) ao af n lw hg sa ea) H4 := hob1
    have hal := al_k hal (hk1 ao hA.1)
    have hab := ai_k hab (hk1 af hA.2.1)
    have hsl := ai_k hsl (hk1 sa hA.2.2.1)
    have hel := ai_k hel (hk1 ea hA.2.2.2.1)
    have hk : ∀ q, q ≠ mo → q ≠ sa → q ≠ ea → H4[q]? = s.heap[q]? := fun q h1 h2 h3 => (hk1 q h1).trans (hk q h1 h2 h3)
    have hz := hz1.trans hz
    rw [hQ]
    exact W.iret (v := 0) hx hb hrt (fun t ht hW => ⟨_, (nI 1), rfl, (Or.inl ⟨hq, rfl⟩), ⟨lw, hg, fS, fE, by rw [ht]; exact ⟨hob, hal, hab, hsl, hel⟩⟩, by rw [ht]; exact hz, by rw [ht]; exact hk⟩) hL dM_hops_18

set_option maxRecDepth 100000 in
set_option maxHeartbeats 4000000 in
theorem m_count (l : Launch) (G : va_G) (cA : Nat → ClassId) (mo ao af sa ea n : Nat) (fo : Nat → Int64) (fb : Nat → Int32) (v : Int32) : Met l yM_count wsM_count ({ frames := 1, cells := 0, slots := 0, locals := 23 }) (PH G cA [.ref mo, .int v] (fun H => (mA mo ao af sa ea ∧ n ≤ 50 ∧ ∃ th, mV G cA mo ao af sa ea n fo fb th H))) (mI G cA mo ao af sa ea n fo fb (fun r th => (v = 0 ∧ th = nI 0 ∧ r = nI n) ∨ (¬ v = 0 ∧ ¬ v = 1 ∧ th = nI 1) ∨ (v = 1 ∧ th = nI 0 ∧ r = nI (dct (fun i k => fo (64 * i + k)) n)))) 0 0 (mW mo sa ea) := by
  refine Met.ofW (cc := cM_count) (maxL := 5) (ret := (some .int)) (by decide) rfl ?_
  intro p e s m args below meth c s₁ B hml hv
  obtain ⟨hav, hKN, hA, hn, th0, lw, hg, fS, fE, hob, hal, hab, hsl, hel⟩ := hv
  have hK := hKN.1
  have hx := B.exec
  have hb := B.bytes
  have hrt := B.returns
  have htA : ∀ w ∈ ALL, w.before args s = true := fun w h => atoms_spec (ws := wsM_count) B.pre w (List.mem_cons_of_mem _ h)
  have hown : s.vm.findClass RM = some m.cls := findClass_of_methodNamed B.named
  have hlocks := B.notSynchronized
  refine pw_nm (fun R Q hR hQ => ?_)
  refine pw_entry (vs := [.ref mo, .int v]) hav (Nat.le_of_ble_eq_true rfl) (fun ls hl => ?_)
  have hl : lv_has ls 5 [(0, .ref mo), (1, .int v)] := hl
  have hz : s.heap.size = s.heap.size := rfl
  have hk : ∀ q, q ≠ mo → q ≠ sa → q ≠ ea → s.heap[q]? = s.heap[q]? := fun _ _ _ _ => rfl
  have hL : ∀ z ∈ ([] : List Loc), mW mo sa ea z.base := fun _ h => by cases h
  refine lv_aload_n hx hb dM_count_0 rfl (lv_at hl 0 rfl) ?_
  refine lv_iconst (v := nI 0) hx hb dM_count_1 (by decide) ?_
  refine pw_put (ci := 4) (C := RM) (T := TM) (N := 8) (ty := .int) (F := mW mo sa ea) hx hb htA inM tyM tyM_ok nmM hown hK hob rfl 0 (by decide) (htA _ wd435) (fun _ h9 => h9) rfl (by decide +kernel) rfl rfl (Nat.le_of_ble_eq_true rfl) hL (Or.inl rfl) dM_count_2 (fun H1 lc2 hob1 hz1 hk1 hL => ?_)
  have hob : ob G 4 mo (mF (nI 0) ao af n lw hg sa ea) H1 := hob1
  have hal := al_k hal (hk1 ao hA.1)
  have hab := ai_k hab (hk1 af hA.2.1)
  have hsl := ai_k hsl (hk1 sa hA.2.2.1)
  have hel := ai_k hel (hk1 ea hA.2.2.2.1)
  have hk : ∀ q, q ≠ mo → q ≠ sa → q ≠ ea → H1[q]? = s.heap[q]? := fun q h1 h2 h3 => (hk1 q h1).trans (hk q h1 h2 h3)
  have hz := hz1.trans hz
  refine lv_iload_n hx hb dM_count_5 rfl (lv_at hl 1 rfl) ?_
  refine lv_if_ne (tgt := 14) hx hb dM_count_6 (by decide) (fun c1 => ?_) (fun c1 => ?_)
  · refine lv_iload_n hx hb dM_count_14 rfl (lv_at hl 1 rfl) ?_
    refine lv_iconst (v := nI 1) hx hb dM_count_15 (by decide) ?_
    refine lv_icmp_eq (tgt := 25) hx hb dM_count_16 (by decide) (fun c2 => ?_) (fun c2 => ?_)
    · refine lv_iconst (v := nI 0) hx hb dM_count_25 (by decide) ?_
      refine lv_istore_n (lv' := [(2, .int (nI 0)), (0, .ref mo), (1, .int v)]) hx hb dM_count_26 rfl hl (by decide) rfl (fun ls hl => ?_)
      refine lv_iconst (v := nI 0) hx hb dM_count_27 (by decide) ?_
      refine lv_istore_n (lv' := [(3, .int (nI 0)), (2, .int (nI 0)), (0, .ref mo), (1, .int v)]) hx hb dM_count_28 rfl hl (by decide) rfl (fun ls hl => ?_)
      have lp : ∀ (k i : Nat), i + k = n → ∀ ls : Array Slot, lv_has ls 5 [(0, .ref mo), (2, .int (nI (dct (fun i k => fo (64 * i + k)) i))), (3, .int (nI i))] → W p l e R s m args below meth c H1 lc2 0 0 Q (F0 m 29 ls []) := by
        intro k
        induction k with
        | zero =>
          intro i hik ls hl
          have hi : i = n := by omega
          subst hi
          refine lv_iload_n hx hb dM_count_29 rfl (lv_at hl 2 rfl) ?_
          refine lv_aload_n hx hb dM_count_30 rfl (lv_at hl 0 rfl) ?_
          refine va_get (D := G) (ci := 4) (v := .int (nI i)) (C := RM) (T := TM) (N := 8) hx hb htA inM hown hK (ob_P hob) 0 rfl rfl 3 (by decide) (htA _ wd438) (fun _ h9 => h9) rfl dM_count_31 ?_
          refine lv_icmp_ge (tgt := 73) hx hb dM_count_34 (by decide) (fun _ => ?_) (fun c9 => absurd (Int32.le_refl _) c9)
          refine lv_iload_n hx hb dM_count_73 rfl (lv_at hl 1 rfl) ?_
          rw [hQ]
          exact W.iret (v := nI (dct (fun i k => fo (64 * i + k)) i)) hx hb hrt (fun t ht hW => ⟨_, (nI 0), rfl, (Or.inr (Or.inr ⟨c2, rfl, rfl⟩)), ⟨lw, hg, fS, fE, by rw [ht]; exact ⟨hob, hal, hab, hsl, hel⟩⟩, by rw [ht]; exact hz, by rw [ht]; exact hk⟩) hL dM_count_74
        | succ k ih =>
          intro i hik ls hl
          have hi : i < n := by omega
          refine lv_iload_n hx hb dM_count_29 rfl (lv_at hl 2 rfl) ?_
          refine lv_aload_n hx hb dM_count_30 rfl (lv_at hl 0 rfl) ?_
          refine va_get (D := G) (ci := 4) (v := .int (nI n)) (C := RM) (T := TM) (N := 8) hx hb htA inM hown hK (ob_P hob) 0 rfl rfl 3 (by decide) (htA _ wd438) (fun _ h9 => h9) rfl dM_count_31 ?_
          refine lv_icmp_ge (tgt := 73) hx hb dM_count_34 (by decide) (fun c9 => absurd c9 (nI_ge hi (by omega))) (fun _ => ?_)
          refine lv_iconst (v := nI 0) hx hb dM_count_37 (by decide) ?_
          refine lv_istore (lv' := [(4, .int (nI 0)), (0, .ref mo), (2, .int (nI (dct (fun i k => fo (64 * i + k)) i))), (3, .int (nI i))]) hx hb dM_count_38 hl (by decide) rfl (fun ls hl => ?_)
          have lq : ∀ (kq q : Nat), q + kq = i → (∀ j, j < q → eqO ((fun i k => fo (64 * i + k)) j) ((fun i k => fo (64 * i + k)) i) = false) → ∀ ls : Array Slot, lv_has ls 5 [(0, .ref mo), (2, .int (nI (dct (fun i k => fo (64 * i + k)) i))), (3, .int (nI i)), (4, .int (nI q))] → W p l e R s m args below meth c H1 lc2 0 0 Q (F0 m 40 ls []) := by
            intro kq
            induction kq with
            | zero =>
              intro q hik2 hinv2 ls hl
              have hqi : q = i := by omega
              refine lv_aload_n hx hb dM_count_40 rfl (lv_at hl 0 rfl) ?_
              refine lv_iload_n hx hb dM_count_41 rfl (lv_at hl 2 rfl) ?_
              refine lv_iload hx hb dM_count_42 (lv_at hl 3 rfl) ?_
              refine vp_callSi (va_Run.run (va_runV (As := [.int (nI i), .int (nI q)]) (rest := []) ⟨hx, hb, hml, hown, htA⟩ (m_apart l G cA mo ao (mF (nI 0) ao af n lw hg sa ea) fo i q rfl (by omega) (by omega)) (cwV 2 htA (gd_V wd526 wd528 wd21 wd28 wd529) rfl rfl rfl (by decide +kernel) (by rw [hR]; exact ⟨Nat.le_of_ble_eq_true rfl, Nat.le_of_ble_eq_true rfl⟩)) (pw_V (ci := 4) (q := (RM, TM, 8)) hKN hob rfl ⟨hob, hal⟩) rfl rfl hl.1 rfl (lv_room (Nat.le_of_ble_eq_true rfl)) dM_count_44 (by rw [hR]; exact ⟨Nat.le_of_ble_eq_true rfl, Nat.le_of_ble_eq_true rfl⟩))) (fun r3 hr3 => ?_)
              obtain ⟨kp, hap, rfl⟩ := hr3
              have hkp := hap.1
              refine lv_bipush (v := nI 64) hx hb dM_count_47 (by decide) ?_
              have hkp2 : kp = 64 := (apR_eq hap).mpr (by rw [hqi]; unfold eqO; rw [eqN_iff]; intro _ _; rfl)
              subst hkp2
              refine lv_icmp_ge (tgt := 58) hx hb dM_count_49 (by decide) (fun _ => ?_) (fun c9 => absurd (Int32.le_refl _) c9)
              refine lv_iload hx hb dM_count_58 (lv_at hl 3 rfl) ?_
              refine lv_iload_n hx hb dM_count_60 rfl (lv_at hl 2 rfl) ?_
              refine lv_icmp_ne (tgt := 67) hx hb dM_count_61 (by decide) (fun c9 => absurd (by rw [hqi]) c9) (fun _ => ?_)
              have hd := dct_t (O := (fun i k => fo (64 * i + k))) (n := i) (isN_t (fun j hj => hinv2 j (by omega)))
              refine lv_iinc (v := nI ((dct (fun i k => fo (64 * i + k)) i) + 1)) (lv' := [(2, .int (nI ((dct (fun i k => fo (64 * i + k)) i) + 1))), (0, .ref mo), (3, .int (nI i)), (4, .int (nI q))]) hx hb dM_count_64 hl (k := 1) rfl (nI_1 (dct (fun i k => fo (64 * i + k)) i)) (by decide) rfl (fun ls hl => ?_)
              rw [hd] at hl
              refine lv_iinc (v := nI (i + 1)) (lv' := [(3, .int (nI (i + 1))), (2, .int (nI (dct (fun i k => fo (64 * i + k)) (i + 1)))), (0, .ref mo), (4, .int (nI q))]) hx hb dM_count_67 hl (k := 2) rfl (nI_1 i) (by decide) rfl (fun ls hl => ?_)
              refine lv_goto (tgt := 29) hx hb dM_count_70 (by decide) ?_
              exact ih (i + 1) (by omega) ls (lv_sub hl [2, 1, 0] rfl)
            | succ kq ih2 =>
              intro q hik2 hinv2 ls hl
              refine lv_aload_n hx hb dM_count_40 rfl (lv_at hl 0 rfl) ?_
              refine lv_iload_n hx hb dM_count_41 rfl (lv_at hl 2 rfl) ?_
              refine lv_iload hx hb dM_count_42 (lv_at hl 3 rfl) ?_
              refine vp_callSi (va_Run.run (va_runV (As := [.int (nI i), .int (nI q)]) (rest := []) ⟨hx, hb, hml, hown, htA⟩ (m_apart l G cA mo ao (mF (nI 0) ao af n lw hg sa ea) fo i q rfl (by omega) (by omega)) (cwV 2 htA (gd_V wd526 wd528 wd21 wd28 wd529) rfl rfl rfl (by decide +kernel) (by rw [hR]; exact ⟨Nat.le_of_ble_eq_true rfl, Nat.le_of_ble_eq_true rfl⟩)) (pw_V (ci := 4) (q := (RM, TM, 8)) hKN hob rfl ⟨hob, hal⟩) rfl rfl hl.1 rfl (lv_room (Nat.le_of_ble_eq_true rfl)) dM_count_44 (by rw [hR]; exact ⟨Nat.le_of_ble_eq_true rfl, Nat.le_of_ble_eq_true rfl⟩))) (fun r3 hr3 => ?_)
              obtain ⟨kp, hap, rfl⟩ := hr3
              have hkp := hap.1
              refine lv_bipush (v := nI 64) hx hb dM_count_47 (by decide) ?_
              refine lv_icmp_ge (tgt := 58) hx hb dM_count_49 (by decide) (fun c4 => ?_) (fun c4 => ?_)
              · have hkp2 : kp = 64 := by have := (nI_leI (by decide) (by omega)).mp c4; omega
                have hd := dct_f (O := (fun i k => fo (64 * i + k))) (n := i) (isN_f (j := q) (by omega) (by rw [eqO_sym]; exact (apR_eq hap).mp hkp2))
                refine lv_iload hx hb dM_count_58 (lv_at hl 3 rfl) ?_
                refine lv_iload_n hx hb dM_count_60 rfl (lv_at hl 2 rfl) ?_
                refine lv_icmp_ne (tgt := 67) hx hb dM_count_61 (by decide) (fun _ => ?_) (fun c9 => absurd c9 (fun e9 => absurd ((nI_eq (by omega) (by omega)).mp e9) (by omega)))
                rw [hd] at hl
                refine lv_iinc (v := nI (i + 1)) (lv' := [(3, .int (nI (i + 1))), (0, .ref mo), (2, .int (nI (dct (fun i k => fo (64 * i + k)) (i + 1)))), (4, .int (nI q))]) hx hb dM_count_67 hl (k := 2) rfl (nI_1 i) (by decide) rfl (fun ls hl => ?_)
                refine lv_goto (tgt := 29) hx hb dM_count_70 (by decide) ?_
                exact ih (i + 1) (by omega) ls (lv_sub hl [1, 2, 0] rfl)
              · have hkp2 : ¬ kp = 64 := fun e9 => c4 (by rw [e9]; exact Int32.le_refl _)
                have hne : eqO ((fun i k => fo (64 * i + k)) q) ((fun i k => fo (64 * i + k)) i) = false := by rw [eqO_sym]; exact ts_nt (fun q9 => hkp2 ((apR_eq hap).mpr q9))
                refine lv_iinc (v := nI (q + 1)) (lv' := [(4, .int (nI (q + 1))), (0, .ref mo), (2, .int (nI (dct (fun i k => fo (64 * i + k)) i))), (3, .int (nI i))]) hx hb dM_count_52 hl (k := 3) rfl (nI_1 q) (by decide) rfl (fun ls hl => ?_)
                refine lv_goto (tgt := 40) hx hb dM_count_55 (by decide) ?_
                exact ih2 (q + 1) (by omega) (lt_s hinv2 hne) ls (lv_sub hl [1, 2, 3, 0] rfl)
          exact lq (i) 0 (by omega) lt_0 ls (lv_sub hl [1, 2, 3, 0] rfl)
      exact lp (n) 0 (by omega) ls (lv_sub hl [2, 1, 0] rfl)
    · refine lv_aload_n hx hb dM_count_19 rfl (lv_at hl 0 rfl) ?_
      refine lv_iconst (v := nI 1) hx hb dM_count_20 (by decide) ?_
      refine pw_call (F := mW mo sa ea) (va_runV (As := [.int (nI 1)]) (rest := []) ⟨hx, hb, hml, hown, htA⟩ (m_raise l G cA mo (mF (nI 0) ao af n lw hg sa ea) (nI 1)) (cwV 1 htA (gd_V wd480 wd482 wd16 wd28 wd483) rfl rfl rfl (by decide +kernel) (by rw [hR]; exact ⟨Nat.le_of_ble_eq_true rfl, Nat.le_of_ble_eq_true rfl⟩)) (pw_V (ci := 4) (q := (RM, TM, 8)) hKN hob rfl ⟨hob, Nat.zero_lt_succ _⟩) rfl rfl hl.1 rfl (lv_room (Nat.le_of_ble_eq_true rfl)) dM_count_21 (by rw [hR]; exact ⟨Nat.le_of_ble_eq_true rfl, Nat.le_of_ble_eq_true rfl⟩)) hL (fun q h => Or.inl h) (fun v9 st9 t9 lc4 h0 ha9 hL hq9 => ?_)
      obtain ⟨hv9, hob1, hz1, hk1⟩ := hq9
      cases hv9
      rw [h0] at hz1 hk1
      generalize t9.heap = H3 at hob1 hz1 hk1 ⊢
      have hob : ob G 4 mo (mF (nI 1) ao af n lw hg sa ea) H3 := hob1
      have hal := al_k hal (hk1 ao hA.1)
      have hab := ai_k hab (hk1 af hA.2.1)
      have hsl := ai_k hsl (hk1 sa hA.2.2.1)
      have hel := ai_k hel (hk1 ea hA.2.2.2.1)
      have hk : ∀ q, q ≠ mo → q ≠ sa → q ≠ ea → H3[q]? = s.heap[q]? := fun q h1 h2 h3 => (hk1 q h1).trans (hk q h1 h2 h3)
      have hz := hz1.trans hz
      rw [hQ]
      exact W.iret (v := 0) hx hb hrt (fun t ht hW => ⟨_, (nI 1), rfl, (Or.inr (Or.inl ⟨c1, c2, rfl⟩)), ⟨lw, hg, fS, fE, by rw [ht]; exact ⟨hob, hal, hab, hsl, hel⟩⟩, by rw [ht]; exact hz, by rw [ht]; exact hk⟩) hL dM_count_24
  · refine lv_aload_n hx hb dM_count_9 rfl (lv_at hl 0 rfl) ?_
    refine va_get (D := G) (ci := 4) (v := .int (nI n)) (C := RM) (T := TM) (N := 8) hx hb htA inM hown hK (ob_P hob) 0 rfl rfl 3 (by decide) (htA _ wd438) (fun _ h9 => h9) rfl dM_count_10 ?_
    rw [hQ]
    exact W.iret (v := nI n) hx hb hrt (fun t ht hW => ⟨_, (nI 0), rfl, (Or.inl ⟨c1, rfl, rfl⟩), ⟨lw, hg, fS, fE, by rw [ht]; exact ⟨hob, hal, hab, hsl, hel⟩⟩, by rw [ht]; exact hz, by rw [ht]; exact hk⟩) hL dM_count_13
end
section
theorem wfN_7 {n j : Nat} {a b c : Int32} (h : 7 ≤ j) (hw : wfN n j a b c = true) : inb n a = true := by
  match j, h, hw with
  | 7, _, hw => exact hw
  | 8, _, hw => exact (and_t hw).1
  | j + 9, _, hw => exact absurd hw (by show ¬ false = true; decide)
end
section
set_option maxRecDepth 100000 in
set_option maxHeartbeats 4000000 in
theorem m_policy (l : Launch) (G : va_G) (cA : Nat → ClassId) (mo ao af sa ea n : Nat) (fo : Nat → Int64) (fb : Nat → Int32) (F : Nat → Bool) (k0 a b c0 : Int32) (hF : ∀ i, i < n → fb i = bI (F i)) : Met l yM_policy wsM_policy ({ frames := 3, cells := 0, slots := 0, locals := 78 }) (PH G cA [.ref mo, .int k0, .int a, .int b, .int c0] (fun H => (mA mo ao af sa ea ∧ n ≤ 50 ∧ ∃ th, mV G cA mo ao af sa ea n fo fb th H))) (mP G cA mo ao af sa ea (fun r th n' fo' fb' => (wf n k0 a b c0 = false ∧ th = nI 1 ∧ n' = n ∧ fo' = fo ∧ fb' = fb) ∨ (∃ j, j < 9 ∧ k0 = nI j ∧ wfN n j a b c0 = true ∧ ((7 ≤ j ∧ F (cl a) = false ∧ th = nI 2 ∧ n' = n ∧ fo' = fo ∧ fb' = fb) ∨ ((7 ≤ j → F (cl a) = true) ∧ n = 50 ∧ th = nI 3 ∧ n' = n ∧ fo' = fo ∧ fb' = fb) ∨ ((7 ≤ j → F (cl a) = true) ∧ n < 50 ∧ th = nI 0 ∧ r = nI n ∧ n' = n + 1 ∧ (∀ i, i < 64 * n → fo' i = fo i) ∧ (∀ k, k < 64 → fo' (64 * n + k) = polF j (cl a) (cl b) (cl c0) (fun i k => fo (64 * i + k))  k) ∧ (∀ i, i < n → fb' i = fb i) ∧ fb' n = bI (polB j (cl a) (cl b) (cl c0) F)))))) 0 0 (mY mo ao af sa ea) := by
  refine Met.ofW (cc := cM_policy) (maxL := 6) (ret := (some .int)) (by decide) rfl ?_
  intro p e s m args below meth c s₁ B hml hv
  obtain ⟨hav, hKN, hA, hn, th0, lw, hg, fS, fE, hob, hal, hab, hsl, hel⟩ := hv
  have hK := hKN.1
  have hx := B.exec
  have hb := B.bytes
  have hrt := B.returns
  have htA : ∀ w ∈ ALL, w.before args s = true := fun w h => atoms_spec (ws := wsM_policy) B.pre w (List.mem_cons_of_mem _ h)
  have hown : s.vm.findClass RM = some m.cls := findClass_of_methodNamed B.named
  have hlocks := B.notSynchronized
  refine pw_nm (fun R Q hR hQ => ?_)
  refine pw_entry (vs := [.ref mo, .int k0, .int a, .int b, .int c0]) hav (Nat.le_of_ble_eq_true rfl) (fun ls hl => ?_)
  have hl : lv_has ls 6 [(0, .ref mo), (1, .int k0), (2, .int a), (3, .int b), (4, .int c0)] := hl
  have hz : s.heap.size = s.heap.size := rfl
  have hk : ∀ q, q ≠ mo → q ≠ ao → q ≠ af → q ≠ sa → q ≠ ea → s.heap[q]? = s.heap[q]? := fun _ _ _ _ _ _ => rfl
  have hL : ∀ z ∈ ([] : List Loc), mY mo ao af sa ea z.base := fun _ h => by cases h
  refine lv_aload_n hx hb dM_policy_0 rfl (lv_at hl 0 rfl) ?_
  refine lv_iconst (v := nI 0) hx hb dM_policy_1 (by decide) ?_
  refine pw_put (ci := 4) (C := RM) (T := TM) (N := 8) (ty := .int) (F := mY mo ao af sa ea) hx hb htA inM tyM tyM_ok nmM hown hK hob rfl 0 (by decide) (htA _ wd435) (fun _ h9 => h9) rfl (by decide +kernel) rfl rfl (Nat.le_of_ble_eq_true rfl) hL (Or.inl rfl) dM_policy_2 (fun H1 lc2 hob1 hz1 hk1 hL => ?_)
  have hob : ob G 4 mo (mF (nI 0) ao af n lw hg sa ea) H1 := hob1
  have hal := al_k hal (hk1 ao hA.1)
  have hab := ai_k hab (hk1 af hA.2.1)
  have hsl := ai_k hsl (hk1 sa hA.2.2.1)
  have hel := ai_k hel (hk1 ea hA.2.2.2.1)
  have hk : ∀ q, q ≠ mo → q ≠ ao → q ≠ af → q ≠ sa → q ≠ ea → H1[q]? = s.heap[q]? := fun q h1 h2 h3 h4 h5 => (hk1 q h1).trans (hk q h1 h2 h3 h4 h5)
  have hz := hz1.trans hz
  refine lv_aload_n hx hb dM_policy_5 rfl (lv_at hl 0 rfl) ?_
  refine lv_iload_n hx hb dM_policy_6 rfl (lv_at hl 1 rfl) ?_
  refine lv_iload_n hx hb dM_policy_7 rfl (lv_at hl 2 rfl) ?_
  refine lv_iload_n hx hb dM_policy_8 rfl (lv_at hl 3 rfl) ?_
  refine lv_iload hx hb dM_policy_9 (lv_at hl 4 rfl) ?_
  refine vp_callSi (va_Run.run (va_runV (As := [.int k0, .int a, .int b, .int c0]) (rest := []) ⟨hx, hb, hml, hown, htA⟩ (m_can l G cA mo n (mF (nI 0) ao af n lw hg sa ea) k0 a b c0 rfl (by omega)) (cwV 4 htA (gd_V wd469 wd471 wd14 wd28 wd472) rfl rfl rfl (by decide +kernel) (by rw [hR]; exact ⟨Nat.le_of_ble_eq_true rfl, Nat.le_of_ble_eq_true rfl⟩)) (pw_V (ci := 4) (q := (RM, TM, 8)) hKN hob rfl hob) rfl rfl hl.1 rfl (lv_room (Nat.le_of_ble_eq_true rfl)) dM_policy_11 (by rw [hR]; exact ⟨Nat.le_of_ble_eq_true rfl, Nat.le_of_ble_eq_true rfl⟩))) (fun r3 hr3 => ?_)
  subst hr3
  refine lv_if_ne (tgt := 23) hx hb dM_policy_14 (by decide) (fun c1 => ?_) (fun c1 => ?_)
  · obtain ⟨j, hj, rfl, hw⟩ := wf_t (bI_ne.mp c1)
    refine lv_iload_n hx hb dM_policy_23 rfl (lv_at hl 1 rfl) ?_
    refine lv_bipush (v := nI 6) hx hb dM_policy_24 (by decide) ?_
    refine lv_icmp_le (tgt := 44) hx hb dM_policy_26 (by decide) (fun c2 => ?_) (fun c2 => ?_)
    · have hj6 : j ≤ 6 := (nI_leI (by omega) (by decide)).mp c2
      refine lv_aload_n hx hb dM_policy_44 rfl (lv_at hl 0 rfl) ?_
      refine va_get (D := G) (ci := 4) (v := .int (nI n)) (C := RM) (T := TM) (N := 8) hx hb htA inM hown hK (ob_P hob) 0 rfl rfl 3 (by decide) (htA _ wd438) (fun _ h9 => h9) rfl dM_policy_45 ?_
      refine lv_bipush (v := nI 50) hx hb dM_policy_48 (by decide) ?_
      refine lv_icmp_ne (tgt := 59) hx hb dM_policy_50 (by decide) (fun c5 => ?_) (fun c5 => ?_)
      · have hn50 : n < 50 := by have : ¬ n = 50 := fun q => c5 (by rw [q]); omega
        refine lv_iconst (v := nI 0) hx hb dM_policy_59 (by decide) ?_
        refine lv_istore (lv' := [(5, .int (nI 0)), (0, .ref mo), (1, .int (nI j)), (2, .int a), (3, .int b), (4, .int c0)]) hx hb dM_policy_60 hl (by decide) rfl (fun ls hl => ?_)
        have lp : ∀ (k i : Nat) (g : Nat → Int64) (H8 : Heap) (lc8 : List Loc), i + k = 64 → (ob G 4 mo (mF (nI 0) ao af n lw hg sa ea) H8) → (al (cA 0) ao 3200 g H8) → (ai (cA 3) af 50 fb H8) → (ai (cA 1) sa 64 fS H8) → (ai (cA 1) ea 64 fE H8) → (H8.size = s.heap.size) → (∀ q, q ≠ mo → q ≠ ao → q ≠ af → q ≠ sa → q ≠ ea → H8[q]? = s.heap[q]?) → (∀ z ∈ lc8, mY mo ao af sa ea z.base) → (∀ i, i < 64 * n → g i = fo i) → (∀ k, k < i → g (64 * n + k) = polF j (cl a) (cl b) (cl c0) (fun i k => fo (64 * i + k))  k) → ∀ ls : Array Slot, lv_has ls 6 [(0, .ref mo), (1, .int (nI j)), (2, .int a), (3, .int b), (4, .int c0), (5, .int (nI i))] → W p l e R s m args below meth c H8 lc8 0 0 Q (F0 m 62 ls []) := by
          intro k
          induction k with
          | zero =>
            intro i g H8 lc8 hik hob hal hab hsl hel hz hk hL hg1 hg2 ls hl
            have hi : i = 64 := by omega
            subst hi
            refine lv_iload hx hb dM_policy_62 (lv_at hl 5 rfl) ?_
            refine lv_bipush (v := nI 64) hx hb dM_policy_64 (by decide) ?_
            refine lv_icmp_ge (tgt := 101) hx hb dM_policy_66 (by decide) (fun _ => ?_) (fun c9 => absurd (Int32.le_refl _) c9)
            refine lv_aload_n hx hb dM_policy_101 rfl (lv_at hl 0 rfl) ?_
            refine va_get (D := G) (ci := 4) (v := .ref af) (C := RM) (T := TM) (N := 8) hx hb htA inM hown hK (ob_P hob) 0 rfl rfl 2 (by decide) (htA _ wd437) (fun _ h9 => h9) rfl dM_policy_102 ?_
            refine lv_aload_n hx hb dM_policy_105 rfl (lv_at hl 0 rfl) ?_
            refine va_get (D := G) (ci := 4) (v := .int (nI n)) (C := RM) (T := TM) (N := 8) hx hb htA inM hown hK (ob_P hob) 0 rfl rfl 3 (by decide) (htA _ wd438) (fun _ h9 => h9) rfl dM_policy_106 ?_
            refine lv_aload_n hx hb dM_policy_109 rfl (lv_at hl 0 rfl) ?_
            refine lv_iload_n hx hb dM_policy_110 rfl (lv_at hl 1 rfl) ?_
            refine lv_iload_n hx hb dM_policy_111 rfl (lv_at hl 2 rfl) ?_
            refine lv_iload_n hx hb dM_policy_112 rfl (lv_at hl 3 rfl) ?_
            refine lv_iload hx hb dM_policy_113 (lv_at hl 4 rfl) ?_
            refine vp_callSi (va_Run.run (va_runV (As := [.int (nI j), .int a, .int b, .int c0]) (rest := [.int (nI n), .ref af]) ⟨hx, hb, hml, hown, htA⟩ (m_passes l G cA mo af n (mF (nI 0) ao af n lw hg sa ea) fb F j hj a b c0 rfl hn hw hF) (cwV 4 htA (gd_V wd502 wd504 wd20 wd28 wd505) rfl rfl rfl (by decide +kernel) (by rw [hR]; exact ⟨Nat.le_of_ble_eq_true rfl, Nat.le_of_ble_eq_true rfl⟩)) (pw_V (ci := 4) (q := (RM, TM, 8)) hKN hob rfl ⟨hob, hab⟩) rfl rfl hl.1 rfl (lv_room (Nat.le_of_ble_eq_true rfl)) dM_policy_115 (by rw [hR]; exact ⟨Nat.le_of_ble_eq_true rfl, Nat.le_of_ble_eq_true rfl⟩))) (fun r4 hr4 => ?_)
            subst hr4
            refine pw_zast (F := mY mo ao af sa ea) hx hb hK hab 3 rfl (show n < 50 from hn50) (by decide) (bI_nar _) hL (Or.inr (Or.inr (Or.inl rfl))) dM_policy_118 (fun H6 lc6 hab hz1 hk1 hL => ?_)
            have hob := ob_k hob (hk1 mo (Ne.symm hA.2.1))
            have hal := al_k hal (hk1 ao hA.2.2.2.2.2.2.2.2.2)
            have hsl := ai_k hsl (hk1 sa (Ne.symm hA.2.2.2.2.2.2.1))
            have hel := ai_k hel (hk1 ea (Ne.symm hA.2.2.2.2.2.2.2.1))
            have hk : ∀ q, q ≠ mo → q ≠ ao → q ≠ af → q ≠ sa → q ≠ ea → H6[q]? = s.heap[q]? := fun q h1 h2 h3 h4 h5 => (hk1 q h3).trans (hk q h1 h2 h3 h4 h5)
            have hz := hz1.trans hz
            refine lv_aload_n hx hb dM_policy_119 rfl (lv_at hl 0 rfl) ?_
            refine lv_dup hx hb dM_policy_120 rfl ?_
            refine va_get (D := G) (ci := 4) (v := .int (nI n)) (C := RM) (T := TM) (N := 8) hx hb htA inM hown hK (ob_P hob) 0 rfl rfl 3 (by decide) (htA _ wd438) (fun _ h9 => h9) rfl dM_policy_121 ?_
            refine lv_iconst (v := nI 1) hx hb dM_policy_124 (by decide) ?_
            refine lv_iadd hx hb dM_policy_125 ?_
            refine pw_ti (y := nI (n + 1)) (nI_add _ _) ?_
            refine pw_put (ci := 4) (C := RM) (T := TM) (N := 8) (ty := .int) (F := mY mo ao af sa ea) hx hb htA inM tyM tyM_ok nmM hown hK hob rfl 3 (by decide) (htA _ wd438) (fun _ h9 => h9) rfl (by decide +kernel) rfl rfl (Nat.le_of_ble_eq_true rfl) hL (Or.inl rfl) dM_policy_126 (fun H7 lc7 hob1 hz1 hk1 hL => ?_)
            have hob : ob G 4 mo (mF (nI 0) ao af (n + 1) lw hg sa ea) H7 := hob1
            have hal := al_k hal (hk1 ao hA.1)
            have hab := ai_k hab (hk1 af hA.2.1)
            have hsl := ai_k hsl (hk1 sa hA.2.2.1)
            have hel := ai_k hel (hk1 ea hA.2.2.2.1)
            have hk : ∀ q, q ≠ mo → q ≠ ao → q ≠ af → q ≠ sa → q ≠ ea → H7[q]? = s.heap[q]? := fun q h1 h2 h3 h4 h5 => (hk1 q h1).trans (hk q h1 h2 h3 h4 h5)
            have hz := hz1.trans hz
            refine lv_aload_n hx hb dM_policy_129 rfl (lv_at hl 0 rfl) ?_
            refine va_get (D := G) (ci := 4) (v := .int (nI (n + 1))) (C := RM) (T := TM) (N := 8) hx hb htA inM hown hK (ob_P hob) 0 rfl rfl 3 (by decide) (htA _ wd438) (fun _ h9 => h9) rfl dM_policy_130 ?_
            refine lv_iconst (v := nI 1) hx hb dM_policy_133 (by decide) ?_
            refine lv_isub hx hb dM_policy_134 ?_
            refine pw_ti (y := nI n) (by rw [pk_sub (by omega)]; rfl) ?_
            rw [hQ]
            exact W.iret (v := nI n) hx hb hrt (fun t ht hW => ⟨_, (nI 0), (n + 1), g, (upd fb n (bI (polB j (cl a) (cl b) (cl c0) F))), rfl, (Or.inr ⟨j, hj, rfl, hw, Or.inr (Or.inr ⟨(fun q => absurd q (by omega)), hn50, rfl, rfl, rfl, hg1, hg2, fun i hi => pk_un (by omega), pk_us⟩)⟩), ⟨lw, hg, fS, fE, by rw [ht]; exact ⟨hob, hal, hab, hsl, hel⟩⟩, by rw [ht]; exact hz, by rw [ht]; exact hk⟩) hL dM_policy_135
          | succ k ih =>
            intro i g H8 lc8 hik hob hal hab hsl hel hz hk hL hg1 hg2 ls hl
            have hi : i < 64 := by omega
            refine lv_iload hx hb dM_policy_62 (lv_at hl 5 rfl) ?_
            refine lv_bipush (v := nI 64) hx hb dM_policy_64 (by decide) ?_
            refine lv_icmp_ge (tgt := 101) hx hb dM_policy_66 (by decide) (fun c9 => absurd c9 (nI_ge hi (by decide))) (fun _ => ?_)
            refine lv_aload_n hx hb dM_policy_69 rfl (lv_at hl 0 rfl) ?_
            refine va_get (D := G) (ci := 4) (v := .ref ao) (C := RM) (T := TM) (N := 8) hx hb htA inM hown hK (ob_P hob) 0 rfl rfl 1 (by decide) (htA _ wd436) (fun _ h9 => h9) rfl dM_policy_70 ?_
            refine lv_bipush (v := nI 64) hx hb dM_policy_73 (by decide) ?_
            refine lv_aload_n hx hb dM_policy_75 rfl (lv_at hl 0 rfl) ?_
            refine va_get (D := G) (ci := 4) (v := .int (nI n)) (C := RM) (T := TM) (N := 8) hx hb htA inM hown hK (ob_P hob) 0 rfl rfl 3 (by decide) (htA _ wd438) (fun _ h9 => h9) rfl dM_policy_76 ?_
            refine lv_imul hx hb dM_policy_79 ?_
            refine pw_ti (y := nI (64 * n)) (pk_mul _ _) ?_
            refine lv_iload hx hb dM_policy_80 (lv_at hl 5 rfl) ?_
            refine lv_iadd hx hb dM_policy_82 ?_
            refine pw_ti (y := nI ((64 * n) + i)) (nI_add _ _) ?_
            refine lv_aload_n hx hb dM_policy_83 rfl (lv_at hl 0 rfl) ?_
            refine lv_iload_n hx hb dM_policy_84 rfl (lv_at hl 1 rfl) ?_
            refine lv_iload_n hx hb dM_policy_85 rfl (lv_at hl 2 rfl) ?_
            refine lv_iload_n hx hb dM_policy_86 rfl (lv_at hl 3 rfl) ?_
            refine lv_iload hx hb dM_policy_87 (lv_at hl 4 rfl) ?_
            refine lv_iload hx hb dM_policy_89 (lv_at hl 5 rfl) ?_
            refine vp_callSl (va_Run.run (va_runV (As := [.int (nI j), .int a, .int b, .int c0, .int (nI i)]) (rest := [.int (nI ((64 * n) + i)), .ref ao]) ⟨hx, hb, hml, hown, htA⟩ (m_worked l G cA mo ao n (mF (nI 0) ao af n lw hg sa ea) g j hj a b c0 i hi rfl hn hw) (cwV 5 htA (gd_V wd484 wd486 wd17 wd28 wd487) rfl rfl rfl (by decide +kernel) (by rw [hR]; exact ⟨Nat.le_of_ble_eq_true rfl, Nat.le_of_ble_eq_true rfl⟩)) (pw_V (ci := 4) (q := (RM, TM, 8)) hKN hob rfl ⟨hob, hal⟩) rfl rfl hl.1 rfl (lv_room (Nat.le_of_ble_eq_true rfl)) dM_policy_91 (by rw [hR]; exact ⟨Nat.le_of_ble_eq_true rfl, Nat.le_of_ble_eq_true rfl⟩))) (fun r4 hr4 => ?_)
            subst hr4
            refine pw_tl (y := polF j (cl a) (cl b) (cl c0) (fun i k => fo (64 * i + k))  i) (polF_ext hn hw (fun i9 hi9 k9 hk9 => hg1 _ (by omega)) hi) ?_
            refine pw_last (F := mY mo ao af sa ea) hx hb hK hal 0 rfl (show 64 * n + i < 3200 by omega) (by decide) hL (Or.inr (Or.inl rfl)) dM_policy_94 (fun H6 lc6 hal hz1 hk1 hL => ?_)
            have hob := ob_k hob (hk1 mo (Ne.symm hA.1))
            have hab := ai_k hab (hk1 af (Ne.symm hA.2.2.2.2.2.2.2.2.2))
            have hsl := ai_k hsl (hk1 sa (Ne.symm hA.2.2.2.2.1))
            have hel := ai_k hel (hk1 ea (Ne.symm hA.2.2.2.2.2.1))
            have hk : ∀ q, q ≠ mo → q ≠ ao → q ≠ af → q ≠ sa → q ≠ ea → H6[q]? = s.heap[q]? := fun q h1 h2 h3 h4 h5 => (hk1 q h2).trans (hk q h1 h2 h3 h4 h5)
            have hz := hz1.trans hz
            refine lv_iinc (v := nI (i + 1)) (lv' := [(5, .int (nI (i + 1))), (0, .ref mo), (1, .int (nI j)), (2, .int a), (3, .int b), (4, .int c0)]) hx hb dM_policy_95 hl (k := 5) rfl (nI_1 i) (by decide) rfl (fun ls hl => ?_)
            refine lv_goto (tgt := 62) hx hb dM_policy_98 (by decide) ?_
            exact ih (i + 1) (vp_updL g (64 * n + i) (polF j (cl a) (cl b) (cl c0) (fun i k => fo (64 * i + k))  i)) H6 lc6 (by omega) hob hal hab hsl hel hz hk hL (fun i9 hi9 => (pk_uLn (by omega)).trans (hg1 i9 hi9)) (fun k9 hk9 => by by_cases e9 : k9 = i; (subst e9; exact pk_uLs); exact (pk_uLn (by omega)).trans (hg2 k9 (by omega))) ls (lv_sub hl [1, 2, 3, 4, 5, 0] rfl)
        exact lp (64) 0 fo H1 lc2 (by omega) hob hal hab hsl hel hz hk hL (fun _ _ => rfl) (fun k9 h9 => absurd h9 (Nat.not_lt_zero k9)) ls (lv_sub hl [1, 2, 3, 4, 5, 0] rfl)
      · have hn50 : n = 50 := (nI_eq (by omega) (by decide)).mp c5
        refine lv_aload_n hx hb dM_policy_53 rfl (lv_at hl 0 rfl) ?_
        refine lv_iconst (v := nI 3) hx hb dM_policy_54 (by decide) ?_
        refine pw_call (F := mY mo ao af sa ea) (va_runV (As := [.int (nI 3)]) (rest := []) ⟨hx, hb, hml, hown, htA⟩ (m_raise l G cA mo (mF (nI 0) ao af n lw hg sa ea) (nI 3)) (cwV 1 htA (gd_V wd480 wd482 wd16 wd28 wd483) rfl rfl rfl (by decide +kernel) (by rw [hR]; exact ⟨Nat.le_of_ble_eq_true rfl, Nat.le_of_ble_eq_true rfl⟩)) (pw_V (ci := 4) (q := (RM, TM, 8)) hKN hob rfl ⟨hob, Nat.zero_lt_succ _⟩) rfl rfl hl.1 rfl (lv_room (Nat.le_of_ble_eq_true rfl)) dM_policy_55 (by rw [hR]; exact ⟨Nat.le_of_ble_eq_true rfl, Nat.le_of_ble_eq_true rfl⟩)) hL (fun q h => Or.inl h) (fun v9 st9 t9 lc5 h0 ha9 hL hq9 => ?_)
        obtain ⟨hv9, hob1, hz1, hk1⟩ := hq9
        cases hv9
        rw [h0] at hz1 hk1
        generalize t9.heap = H4 at hob1 hz1 hk1 ⊢
        have hob : ob G 4 mo (mF (nI 3) ao af n lw hg sa ea) H4 := hob1
        have hal := al_k hal (hk1 ao hA.1)
        have hab := ai_k hab (hk1 af hA.2.1)
        have hsl := ai_k hsl (hk1 sa hA.2.2.1)
        have hel := ai_k hel (hk1 ea hA.2.2.2.1)
        have hk : ∀ q, q ≠ mo → q ≠ ao → q ≠ af → q ≠ sa → q ≠ ea → H4[q]? = s.heap[q]? := fun q h1 h2 h3 h4 h5 => (hk1 q h1).trans (hk q h1 h2 h3 h4 h5)
        have hz := hz1.trans hz
        rw [hQ]
        exact W.iret (v := 0) hx hb hrt (fun t ht hW => ⟨_, (nI 3), n, fo, fb, rfl, (Or.inr ⟨j, hj, rfl, hw, Or.inr (Or.inl ⟨(fun q => absurd q (by omega)), hn50, rfl, rfl, rfl, rfl⟩)⟩), ⟨lw, hg, fS, fE, by rw [ht]; exact ⟨hob, hal, hab, hsl, hel⟩⟩, by rw [ht]; exact hz, by rw [ht]; exact hk⟩) hL dM_policy_58
    · have hj7 : 7 ≤ j := by have : ¬ j ≤ 6 := fun q => c2 ((nI_leI (by omega) (by decide)).mpr q); omega
      obtain ⟨na, hna, rfl⟩ := inb_t (by omega) (wfN_7 hj7 hw)
      refine lv_aload_n hx hb dM_policy_29 rfl (lv_at hl 0 rfl) ?_
      refine va_get (D := G) (ci := 4) (v := .ref af) (C := RM) (T := TM) (N := 8) hx hb htA inM hown hK (ob_P hob) 0 rfl rfl 2 (by decide) (htA _ wd437) (fun _ h9 => h9) rfl dM_policy_30 ?_
      refine lv_iload_n hx hb dM_policy_33 rfl (lv_at hl 2 rfl) ?_
      refine pw_zald hx hb hK hab 3 rfl (by omega) (by decide) dM_policy_34 ?_
      refine pw_ti (y := bI (F na)) (hF na hna) ?_
      refine lv_if_ne (tgt := 44) hx hb dM_policy_35 (by decide) (fun c3 => ?_) (fun c3 => ?_)
      · have hfa : F (cl (nI na)) = true := by rw [cl_nI (by omega)]; exact bI_ne.mp c3
        refine lv_aload_n hx hb dM_policy_44 rfl (lv_at hl 0 rfl) ?_
        refine va_get (D := G) (ci := 4) (v := .int (nI n)) (C := RM) (T := TM) (N := 8) hx hb htA inM hown hK (ob_P hob) 0 rfl rfl 3 (by decide) (htA _ wd438) (fun _ h9 => h9) rfl dM_policy_45 ?_
        refine lv_bipush (v := nI 50) hx hb dM_policy_48 (by decide) ?_
        refine lv_icmp_ne (tgt := 59) hx hb dM_policy_50 (by decide) (fun c5 => ?_) (fun c5 => ?_)
        · have hn50 : n < 50 := by have : ¬ n = 50 := fun q => c5 (by rw [q]); omega
          refine lv_iconst (v := nI 0) hx hb dM_policy_59 (by decide) ?_
          refine lv_istore (lv' := [(5, .int (nI 0)), (0, .ref mo), (1, .int (nI j)), (2, .int (nI na)), (3, .int b), (4, .int c0)]) hx hb dM_policy_60 hl (by decide) rfl (fun ls hl => ?_)
          have lp : ∀ (k i : Nat) (g : Nat → Int64) (H8 : Heap) (lc8 : List Loc), i + k = 64 → (ob G 4 mo (mF (nI 0) ao af n lw hg sa ea) H8) → (al (cA 0) ao 3200 g H8) → (ai (cA 3) af 50 fb H8) → (ai (cA 1) sa 64 fS H8) → (ai (cA 1) ea 64 fE H8) → (H8.size = s.heap.size) → (∀ q, q ≠ mo → q ≠ ao → q ≠ af → q ≠ sa → q ≠ ea → H8[q]? = s.heap[q]?) → (∀ z ∈ lc8, mY mo ao af sa ea z.base) → (∀ i, i < 64 * n → g i = fo i) → (∀ k, k < i → g (64 * n + k) = polF j (cl (nI na)) (cl b) (cl c0) (fun i k => fo (64 * i + k))  k) → ∀ ls : Array Slot, lv_has ls 6 [(0, .ref mo), (1, .int (nI j)), (2, .int (nI na)), (3, .int b), (4, .int c0), (5, .int (nI i))] → W p l e R s m args below meth c H8 lc8 0 0 Q (F0 m 62 ls []) := by
            intro k
            induction k with
            | zero =>
              intro i g H8 lc8 hik hob hal hab hsl hel hz hk hL hg1 hg2 ls hl
              have hi : i = 64 := by omega
              subst hi
              refine lv_iload hx hb dM_policy_62 (lv_at hl 5 rfl) ?_
              refine lv_bipush (v := nI 64) hx hb dM_policy_64 (by decide) ?_
              refine lv_icmp_ge (tgt := 101) hx hb dM_policy_66 (by decide) (fun _ => ?_) (fun c9 => absurd (Int32.le_refl _) c9)
              refine lv_aload_n hx hb dM_policy_101 rfl (lv_at hl 0 rfl) ?_
              refine va_get (D := G) (ci := 4) (v := .ref af) (C := RM) (T := TM) (N := 8) hx hb htA inM hown hK (ob_P hob) 0 rfl rfl 2 (by decide) (htA _ wd437) (fun _ h9 => h9) rfl dM_policy_102 ?_
              refine lv_aload_n hx hb dM_policy_105 rfl (lv_at hl 0 rfl) ?_
              refine va_get (D := G) (ci := 4) (v := .int (nI n)) (C := RM) (T := TM) (N := 8) hx hb htA inM hown hK (ob_P hob) 0 rfl rfl 3 (by decide) (htA _ wd438) (fun _ h9 => h9) rfl dM_policy_106 ?_
              refine lv_aload_n hx hb dM_policy_109 rfl (lv_at hl 0 rfl) ?_
              refine lv_iload_n hx hb dM_policy_110 rfl (lv_at hl 1 rfl) ?_
              refine lv_iload_n hx hb dM_policy_111 rfl (lv_at hl 2 rfl) ?_
              refine lv_iload_n hx hb dM_policy_112 rfl (lv_at hl 3 rfl) ?_
              refine lv_iload hx hb dM_policy_113 (lv_at hl 4 rfl) ?_
              refine vp_callSi (va_Run.run (va_runV (As := [.int (nI j), .int (nI na), .int b, .int c0]) (rest := [.int (nI n), .ref af]) ⟨hx, hb, hml, hown, htA⟩ (m_passes l G cA mo af n (mF (nI 0) ao af n lw hg sa ea) fb F j hj (nI na) b c0 rfl hn hw hF) (cwV 4 htA (gd_V wd502 wd504 wd20 wd28 wd505) rfl rfl rfl (by decide +kernel) (by rw [hR]; exact ⟨Nat.le_of_ble_eq_true rfl, Nat.le_of_ble_eq_true rfl⟩)) (pw_V (ci := 4) (q := (RM, TM, 8)) hKN hob rfl ⟨hob, hab⟩) rfl rfl hl.1 rfl (lv_room (Nat.le_of_ble_eq_true rfl)) dM_policy_115 (by rw [hR]; exact ⟨Nat.le_of_ble_eq_true rfl, Nat.le_of_ble_eq_true rfl⟩))) (fun r4 hr4 => ?_)
              subst hr4
              refine pw_zast (F := mY mo ao af sa ea) hx hb hK hab 3 rfl (show n < 50 from hn50) (by decide) (bI_nar _) hL (Or.inr (Or.inr (Or.inl rfl))) dM_policy_118 (fun H6 lc6 hab hz1 hk1 hL => ?_)
              have hob := ob_k hob (hk1 mo (Ne.symm hA.2.1))
              have hal := al_k hal (hk1 ao hA.2.2.2.2.2.2.2.2.2)
              have hsl := ai_k hsl (hk1 sa (Ne.symm hA.2.2.2.2.2.2.1))
              have hel := ai_k hel (hk1 ea (Ne.symm hA.2.2.2.2.2.2.2.1))
              have hk : ∀ q, q ≠ mo → q ≠ ao → q ≠ af → q ≠ sa → q ≠ ea → H6[q]? = s.heap[q]? := fun q h1 h2 h3 h4 h5 => (hk1 q h3).trans (hk q h1 h2 h3 h4 h5)
              have hz := hz1.trans hz
              refine lv_aload_n hx hb dM_policy_119 rfl (lv_at hl 0 rfl) ?_
              refine lv_dup hx hb dM_policy_120 rfl ?_
              refine va_get (D := G) (ci := 4) (v := .int (nI n)) (C := RM) (T := TM) (N := 8) hx hb htA inM hown hK (ob_P hob) 0 rfl rfl 3 (by decide) (htA _ wd438) (fun _ h9 => h9) rfl dM_policy_121 ?_
              refine lv_iconst (v := nI 1) hx hb dM_policy_124 (by decide) ?_
              refine lv_iadd hx hb dM_policy_125 ?_
              refine pw_ti (y := nI (n + 1)) (nI_add _ _) ?_
              refine pw_put (ci := 4) (C := RM) (T := TM) (N := 8) (ty := .int) (F := mY mo ao af sa ea) hx hb htA inM tyM tyM_ok nmM hown hK hob rfl 3 (by decide) (htA _ wd438) (fun _ h9 => h9) rfl (by decide +kernel) rfl rfl (Nat.le_of_ble_eq_true rfl) hL (Or.inl rfl) dM_policy_126 (fun H7 lc7 hob1 hz1 hk1 hL => ?_)
              have hob : ob G 4 mo (mF (nI 0) ao af (n + 1) lw hg sa ea) H7 := hob1
              have hal := al_k hal (hk1 ao hA.1)
              have hab := ai_k hab (hk1 af hA.2.1)
              have hsl := ai_k hsl (hk1 sa hA.2.2.1)
              have hel := ai_k hel (hk1 ea hA.2.2.2.1)
              have hk : ∀ q, q ≠ mo → q ≠ ao → q ≠ af → q ≠ sa → q ≠ ea → H7[q]? = s.heap[q]? := fun q h1 h2 h3 h4 h5 => (hk1 q h1).trans (hk q h1 h2 h3 h4 h5)
              have hz := hz1.trans hz
              refine lv_aload_n hx hb dM_policy_129 rfl (lv_at hl 0 rfl) ?_
              refine va_get (D := G) (ci := 4) (v := .int (nI (n + 1))) (C := RM) (T := TM) (N := 8) hx hb htA inM hown hK (ob_P hob) 0 rfl rfl 3 (by decide) (htA _ wd438) (fun _ h9 => h9) rfl dM_policy_130 ?_
              refine lv_iconst (v := nI 1) hx hb dM_policy_133 (by decide) ?_
              refine lv_isub hx hb dM_policy_134 ?_
              refine pw_ti (y := nI n) (by rw [pk_sub (by omega)]; rfl) ?_
              rw [hQ]
              exact W.iret (v := nI n) hx hb hrt (fun t ht hW => ⟨_, (nI 0), (n + 1), g, (upd fb n (bI (polB j (cl (nI na)) (cl b) (cl c0) F))), rfl, (Or.inr ⟨j, hj, rfl, hw, Or.inr (Or.inr ⟨(fun _ => hfa), hn50, rfl, rfl, rfl, hg1, hg2, fun i hi => pk_un (by omega), pk_us⟩)⟩), ⟨lw, hg, fS, fE, by rw [ht]; exact ⟨hob, hal, hab, hsl, hel⟩⟩, by rw [ht]; exact hz, by rw [ht]; exact hk⟩) hL dM_policy_135
            | succ k ih =>
              intro i g H8 lc8 hik hob hal hab hsl hel hz hk hL hg1 hg2 ls hl
              have hi : i < 64 := by omega
              refine lv_iload hx hb dM_policy_62 (lv_at hl 5 rfl) ?_
              refine lv_bipush (v := nI 64) hx hb dM_policy_64 (by decide) ?_
              refine lv_icmp_ge (tgt := 101) hx hb dM_policy_66 (by decide) (fun c9 => absurd c9 (nI_ge hi (by decide))) (fun _ => ?_)
              refine lv_aload_n hx hb dM_policy_69 rfl (lv_at hl 0 rfl) ?_
              refine va_get (D := G) (ci := 4) (v := .ref ao) (C := RM) (T := TM) (N := 8) hx hb htA inM hown hK (ob_P hob) 0 rfl rfl 1 (by decide) (htA _ wd436) (fun _ h9 => h9) rfl dM_policy_70 ?_
              refine lv_bipush (v := nI 64) hx hb dM_policy_73 (by decide) ?_
              refine lv_aload_n hx hb dM_policy_75 rfl (lv_at hl 0 rfl) ?_
              refine va_get (D := G) (ci := 4) (v := .int (nI n)) (C := RM) (T := TM) (N := 8) hx hb htA inM hown hK (ob_P hob) 0 rfl rfl 3 (by decide) (htA _ wd438) (fun _ h9 => h9) rfl dM_policy_76 ?_
              refine lv_imul hx hb dM_policy_79 ?_
              refine pw_ti (y := nI (64 * n)) (pk_mul _ _) ?_
              refine lv_iload hx hb dM_policy_80 (lv_at hl 5 rfl) ?_
              refine lv_iadd hx hb dM_policy_82 ?_
              refine pw_ti (y := nI ((64 * n) + i)) (nI_add _ _) ?_
              refine lv_aload_n hx hb dM_policy_83 rfl (lv_at hl 0 rfl) ?_
              refine lv_iload_n hx hb dM_policy_84 rfl (lv_at hl 1 rfl) ?_
              refine lv_iload_n hx hb dM_policy_85 rfl (lv_at hl 2 rfl) ?_
              refine lv_iload_n hx hb dM_policy_86 rfl (lv_at hl 3 rfl) ?_
              refine lv_iload hx hb dM_policy_87 (lv_at hl 4 rfl) ?_
              refine lv_iload hx hb dM_policy_89 (lv_at hl 5 rfl) ?_
              refine vp_callSl (va_Run.run (va_runV (As := [.int (nI j), .int (nI na), .int b, .int c0, .int (nI i)]) (rest := [.int (nI ((64 * n) + i)), .ref ao]) ⟨hx, hb, hml, hown, htA⟩ (m_worked l G cA mo ao n (mF (nI 0) ao af n lw hg sa ea) g j hj (nI na) b c0 i hi rfl hn hw) (cwV 5 htA (gd_V wd484 wd486 wd17 wd28 wd487) rfl rfl rfl (by decide +kernel) (by rw [hR]; exact ⟨Nat.le_of_ble_eq_true rfl, Nat.le_of_ble_eq_true rfl⟩)) (pw_V (ci := 4) (q := (RM, TM, 8)) hKN hob rfl ⟨hob, hal⟩) rfl rfl hl.1 rfl (lv_room (Nat.le_of_ble_eq_true rfl)) dM_policy_91 (by rw [hR]; exact ⟨Nat.le_of_ble_eq_true rfl, Nat.le_of_ble_eq_true rfl⟩))) (fun r4 hr4 => ?_)
              subst hr4
              refine pw_tl (y := polF j (cl (nI na)) (cl b) (cl c0) (fun i k => fo (64 * i + k))  i) (polF_ext hn hw (fun i9 hi9 k9 hk9 => hg1 _ (by omega)) hi) ?_
              refine pw_last (F := mY mo ao af sa ea) hx hb hK hal 0 rfl (show 64 * n + i < 3200 by omega) (by decide) hL (Or.inr (Or.inl rfl)) dM_policy_94 (fun H6 lc6 hal hz1 hk1 hL => ?_)
              have hob := ob_k hob (hk1 mo (Ne.symm hA.1))
              have hab := ai_k hab (hk1 af (Ne.symm hA.2.2.2.2.2.2.2.2.2))
              have hsl := ai_k hsl (hk1 sa (Ne.symm hA.2.2.2.2.1))
              have hel := ai_k hel (hk1 ea (Ne.symm hA.2.2.2.2.2.1))
              have hk : ∀ q, q ≠ mo → q ≠ ao → q ≠ af → q ≠ sa → q ≠ ea → H6[q]? = s.heap[q]? := fun q h1 h2 h3 h4 h5 => (hk1 q h2).trans (hk q h1 h2 h3 h4 h5)
              have hz := hz1.trans hz
              refine lv_iinc (v := nI (i + 1)) (lv' := [(5, .int (nI (i + 1))), (0, .ref mo), (1, .int (nI j)), (2, .int (nI na)), (3, .int b), (4, .int c0)]) hx hb dM_policy_95 hl (k := 5) rfl (nI_1 i) (by decide) rfl (fun ls hl => ?_)
              refine lv_goto (tgt := 62) hx hb dM_policy_98 (by decide) ?_
              exact ih (i + 1) (vp_updL g (64 * n + i) (polF j (cl (nI na)) (cl b) (cl c0) (fun i k => fo (64 * i + k))  i)) H6 lc6 (by omega) hob hal hab hsl hel hz hk hL (fun i9 hi9 => (pk_uLn (by omega)).trans (hg1 i9 hi9)) (fun k9 hk9 => by by_cases e9 : k9 = i; (subst e9; exact pk_uLs); exact (pk_uLn (by omega)).trans (hg2 k9 (by omega))) ls (lv_sub hl [1, 2, 3, 4, 5, 0] rfl)
          exact lp (64) 0 fo H1 lc2 (by omega) hob hal hab hsl hel hz hk hL (fun _ _ => rfl) (fun k9 h9 => absurd h9 (Nat.not_lt_zero k9)) ls (lv_sub hl [1, 2, 3, 4, 5, 0] rfl)
        · have hn50 : n = 50 := (nI_eq (by omega) (by decide)).mp c5
          refine lv_aload_n hx hb dM_policy_53 rfl (lv_at hl 0 rfl) ?_
          refine lv_iconst (v := nI 3) hx hb dM_policy_54 (by decide) ?_
          refine pw_call (F := mY mo ao af sa ea) (va_runV (As := [.int (nI 3)]) (rest := []) ⟨hx, hb, hml, hown, htA⟩ (m_raise l G cA mo (mF (nI 0) ao af n lw hg sa ea) (nI 3)) (cwV 1 htA (gd_V wd480 wd482 wd16 wd28 wd483) rfl rfl rfl (by decide +kernel) (by rw [hR]; exact ⟨Nat.le_of_ble_eq_true rfl, Nat.le_of_ble_eq_true rfl⟩)) (pw_V (ci := 4) (q := (RM, TM, 8)) hKN hob rfl ⟨hob, Nat.zero_lt_succ _⟩) rfl rfl hl.1 rfl (lv_room (Nat.le_of_ble_eq_true rfl)) dM_policy_55 (by rw [hR]; exact ⟨Nat.le_of_ble_eq_true rfl, Nat.le_of_ble_eq_true rfl⟩)) hL (fun q h => Or.inl h) (fun v9 st9 t9 lc5 h0 ha9 hL hq9 => ?_)
          obtain ⟨hv9, hob1, hz1, hk1⟩ := hq9
          cases hv9
          rw [h0] at hz1 hk1
          generalize t9.heap = H4 at hob1 hz1 hk1 ⊢
          have hob : ob G 4 mo (mF (nI 3) ao af n lw hg sa ea) H4 := hob1
          have hal := al_k hal (hk1 ao hA.1)
          have hab := ai_k hab (hk1 af hA.2.1)
          have hsl := ai_k hsl (hk1 sa hA.2.2.1)
          have hel := ai_k hel (hk1 ea hA.2.2.2.1)
          have hk : ∀ q, q ≠ mo → q ≠ ao → q ≠ af → q ≠ sa → q ≠ ea → H4[q]? = s.heap[q]? := fun q h1 h2 h3 h4 h5 => (hk1 q h1).trans (hk q h1 h2 h3 h4 h5)
          have hz := hz1.trans hz
          rw [hQ]
          exact W.iret (v := 0) hx hb hrt (fun t ht hW => ⟨_, (nI 3), n, fo, fb, rfl, (Or.inr ⟨j, hj, rfl, hw, Or.inr (Or.inl ⟨(fun _ => hfa), hn50, rfl, rfl, rfl, rfl⟩)⟩), ⟨lw, hg, fS, fE, by rw [ht]; exact ⟨hob, hal, hab, hsl, hel⟩⟩, by rw [ht]; exact hz, by rw [ht]; exact hk⟩) hL dM_policy_58
      · have hfa : F (cl (nI na)) = false := by rw [cl_nI (by omega)]; exact bI_eq.mp c3
        refine lv_aload_n hx hb dM_policy_38 rfl (lv_at hl 0 rfl) ?_
        refine lv_iconst (v := nI 2) hx hb dM_policy_39 (by decide) ?_
        refine pw_call (F := mY mo ao af sa ea) (va_runV (As := [.int (nI 2)]) (rest := []) ⟨hx, hb, hml, hown, htA⟩ (m_raise l G cA mo (mF (nI 0) ao af n lw hg sa ea) (nI 2)) (cwV 1 htA (gd_V wd480 wd482 wd16 wd28 wd483) rfl rfl rfl (by decide +kernel) (by rw [hR]; exact ⟨Nat.le_of_ble_eq_true rfl, Nat.le_of_ble_eq_true rfl⟩)) (pw_V (ci := 4) (q := (RM, TM, 8)) hKN hob rfl ⟨hob, Nat.zero_lt_succ _⟩) rfl rfl hl.1 rfl (lv_room (Nat.le_of_ble_eq_true rfl)) dM_policy_40 (by rw [hR]; exact ⟨Nat.le_of_ble_eq_true rfl, Nat.le_of_ble_eq_true rfl⟩)) hL (fun q h => Or.inl h) (fun v9 st9 t9 lc5 h0 ha9 hL hq9 => ?_)
        obtain ⟨hv9, hob1, hz1, hk1⟩ := hq9
        cases hv9
        rw [h0] at hz1 hk1
        generalize t9.heap = H4 at hob1 hz1 hk1 ⊢
        have hob : ob G 4 mo (mF (nI 2) ao af n lw hg sa ea) H4 := hob1
        have hal := al_k hal (hk1 ao hA.1)
        have hab := ai_k hab (hk1 af hA.2.1)
        have hsl := ai_k hsl (hk1 sa hA.2.2.1)
        have hel := ai_k hel (hk1 ea hA.2.2.2.1)
        have hk : ∀ q, q ≠ mo → q ≠ ao → q ≠ af → q ≠ sa → q ≠ ea → H4[q]? = s.heap[q]? := fun q h1 h2 h3 h4 h5 => (hk1 q h1).trans (hk q h1 h2 h3 h4 h5)
        have hz := hz1.trans hz
        rw [hQ]
        exact W.iret (v := 0) hx hb hrt (fun t ht hW => ⟨_, (nI 2), n, fo, fb, rfl, (Or.inr ⟨j, hj, rfl, hw, Or.inl ⟨hj7, hfa, rfl, rfl, rfl, rfl⟩⟩), ⟨lw, hg, fS, fE, by rw [ht]; exact ⟨hob, hal, hab, hsl, hel⟩⟩, by rw [ht]; exact hz, by rw [ht]; exact hk⟩) hL dM_policy_43
  · have hq := bI_eq.mp c1
    refine lv_aload_n hx hb dM_policy_17 rfl (lv_at hl 0 rfl) ?_
    refine lv_iconst (v := nI 1) hx hb dM_policy_18 (by decide) ?_
    refine pw_call (F := mY mo ao af sa ea) (va_runV (As := [.int (nI 1)]) (rest := []) ⟨hx, hb, hml, hown, htA⟩ (m_raise l G cA mo (mF (nI 0) ao af n lw hg sa ea) (nI 1)) (cwV 1 htA (gd_V wd480 wd482 wd16 wd28 wd483) rfl rfl rfl (by decide +kernel) (by rw [hR]; exact ⟨Nat.le_of_ble_eq_true rfl, Nat.le_of_ble_eq_true rfl⟩)) (pw_V (ci := 4) (q := (RM, TM, 8)) hKN hob rfl ⟨hob, Nat.zero_lt_succ _⟩) rfl rfl hl.1 rfl (lv_room (Nat.le_of_ble_eq_true rfl)) dM_policy_19 (by rw [hR]; exact ⟨Nat.le_of_ble_eq_true rfl, Nat.le_of_ble_eq_true rfl⟩)) hL (fun q h => Or.inl h) (fun v9 st9 t9 lc5 h0 ha9 hL hq9 => ?_)
    obtain ⟨hv9, hob1, hz1, hk1⟩ := hq9
    cases hv9
    rw [h0] at hz1 hk1
    generalize t9.heap = H4 at hob1 hz1 hk1 ⊢
    have hob : ob G 4 mo (mF (nI 1) ao af n lw hg sa ea) H4 := hob1
    have hal := al_k hal (hk1 ao hA.1)
    have hab := ai_k hab (hk1 af hA.2.1)
    have hsl := ai_k hsl (hk1 sa hA.2.2.1)
    have hel := ai_k hel (hk1 ea hA.2.2.2.1)
    have hk : ∀ q, q ≠ mo → q ≠ ao → q ≠ af → q ≠ sa → q ≠ ea → H4[q]? = s.heap[q]? := fun q h1 h2 h3 h4 h5 => (hk1 q h1).trans (hk q h1 h2 h3 h4 h5)
    have hz := hz1.trans hz
    rw [hQ]
    exact W.iret (v := 0) hx hb hrt (fun t ht hW => ⟨_, (nI 1), n, fo, fb, rfl, (Or.inl ⟨hq, rfl, rfl, rfl, rfl⟩), ⟨lw, hg, fS, fE, by rw [ht]; exact ⟨hob, hal, hab, hsl, hel⟩⟩, by rw [ht]; exact hz, by rw [ht]; exact hk⟩) hL dM_policy_22
end
section
theorem rl_n {th x n : Nat} {o : Int64} (h : hbit o n = false) : rl th x o n = rl th x o (n + 1) := by
  show _ = (if hbit o n = true then _ else _)
  rw [if_neg (by rw [h]; decide)]
theorem rh_n {th x n : Nat} {o : Int64} (h : hbit o n = false) : rh th x o n = rh th x o (n + 1) := by
  show _ = (if hbit o n = true then _ else _)
  rw [if_neg (by rw [h]; decide)]
theorem rl_y {th x n : Nat} {o : Int64} (h : hbit o n = true) (h2 : act x n < th) : rl th x o n ||| one (act x n) = rl th x o (n + 1) := by
  show _ = (if hbit o n = true then (if act x n < th then _ else _) else _)
  rw [if_pos h, if_pos h2]
theorem rh_y {th x n : Nat} {o : Int64} (h : hbit o n = true) (h2 : act x n < th) : rh th x o n = rh th x o (n + 1) := by
  show _ = (if hbit o n = true then (if act x n < th then _ else _) else _)
  rw [if_pos h, if_pos h2]
theorem rl_z {th x n : Nat} {o : Int64} (h : hbit o n = true) (h2 : ¬ act x n < th) : rl th x o n = rl th x o (n + 1) := by
  show _ = (if hbit o n = true then (if act x n < th then _ else _) else _)
  rw [if_pos h, if_neg h2]
theorem rh_z {th x n : Nat} {o : Int64} (h : hbit o n = true) (h2 : ¬ act x n < th) : rh th x o n ||| one (act x n - th) = rh th x o (n + 1) := by
  show _ = (if hbit o n = true then (if act x n < th then _ else _) else _)
  rw [if_pos h, if_neg h2]
theorem uni_t {th : Nat} {f : Nat → Int64} {x n : Nat} (h : ∀ q, q < n → rl th (x + q) (f (x + q)) 64 = rl th x (f x) 64 ∧ rh th (x + q) (f (x + q)) 64 = rh th x (f x) 64) : uni th f x n = true := by
  unfold uni
  rw [decide_eq_true_eq]
  exact h
theorem uni_f {th : Nat} {f : Nat → Int64} {x n q : Nat} (hq : q < n) (h : ¬ (rl th (x + q) (f (x + q)) 64 = rl th x (f x) 64 ∧ rh th (x + q) (f (x + q)) 64 = rh th x (f x) 64)) : uni th f x n = false := by
  unfold uni
  rw [decide_eq_false_iff_not]
  exact fun z => h (z q hq)
def tbl (f : Nat → Int64) : List (Nat × Nat) := reg (uni 64 f) 3 0
def rowsOf (D : List (Nat × Nat)) (fS fE : Nat → Int32) : Prop := ∀ k, k < D.length → fS k = nI (D.getD k (0, 0)).1 ∧ fE k = nI (4 ^ (D.getD k (0, 0)).2)
theorem rowsOf_0 {fS fE : Nat → Int32} : rowsOf [] fS fE := fun k h => absurd h (Nat.not_lt_zero k)
theorem rowsOf_s {D : List (Nat × Nat)} {fS fE : Nat → Int32} (h : rowsOf D fS fE) (x d : Nat) : rowsOf (D ++ [(x, d)]) (upd fS D.length (nI x)) (upd fE D.length (nI (4 ^ d))) := by
  intro k hk
  rw [List.length_append, List.length_singleton] at hk
  by_cases e : k = D.length
  · subst e
    rw [pk_us, pk_us]
    simp
  · have hl : k < D.length := by omega
    rw [pk_un e, pk_un e]
    obtain ⟨h1, h2⟩ := h k hl
    rw [h1, h2]
    have e3 : (D ++ [(x, d)]).getD k (0, 0) = D.getD k (0, 0) := by rw [List.getD_eq_getElem?_getD, List.getElem?_append_left hl, List.getD_eq_getElem?_getD]
    rw [e3]
    exact ⟨rfl, rfl⟩
theorem grd_end {ok : Nat → Nat → Bool} {n : Nat} : grd ok n 64 = [] := by
  cases n with
  | zero => rfl
  | succ k => show (if 64 ≤ 64 then [] else _) = []; rw [if_pos (Nat.le_refl _)]
def plR (T : List (Nat × Nat)) (x k : Nat) : Prop := k < T.length ∧ x < (T.getD k (0, 0)).1 + 4 ^ (T.getD k (0, 0)).2 ∧ ∀ j, j < k → ¬ x < (T.getD j (0, 0)).1 + 4 ^ (T.getD j (0, 0)).2
theorem plR_one {T : List (Nat × Nat)} {x k j : Nat} (h1 : plR T x k) (h2 : plR T x j) : k = j := by
  rcases Nat.lt_trichotomy k j with q | q | q
  · exact absurd h1.2.1 (h2.2.2 k q)
  · exact q
  · exact absurd h2.2.1 (h1.2.2 j q)
def okRow (r : Nat × Nat) : Prop := r.2 ≤ 3 ∧ r.1 + 4 ^ r.2 ≤ 64
theorem reg_ok (ok : Nat → Nat → Bool) : (∀ x, x + 1 ≤ 64 → ∀ r ∈ reg ok 0 x, okRow r) ∧ (∀ x, x + 4 ≤ 64 → ∀ r ∈ reg ok 1 x, okRow r) ∧ (∀ x, x + 16 ≤ 64 → ∀ r ∈ reg ok 2 x, okRow r) ∧ (∀ x, x + 64 ≤ 64 → ∀ r ∈ reg ok 3 x, okRow r) := by
  have h0 : ∀ x, x + 1 ≤ 64 → ∀ r ∈ reg ok 0 x, okRow r := by
    intro x hx r hr
    have hr : r ∈ [(x, 0)] := hr
    rw [List.mem_singleton] at hr
    subst hr
    exact ⟨Nat.zero_le 3, hx⟩
  have step : ∀ (d m : Nat), d ≤ 2 → 4 ^ d = m → (∀ x, x + m ≤ 64 → ∀ r ∈ reg ok d x, okRow r) → ∀ x, x + 4 * m ≤ 64 → ∀ r ∈ reg ok (d + 1) x, okRow r := by
    intro d m hd hm h x hx r hr
    have hr : r ∈ (if ok x (4 ^ (d + 1)) = true then [(x, d + 1)] else reg ok d x ++ (reg ok d (x + 4 ^ d) ++ (reg ok d (x + 2 * 4 ^ d) ++ reg ok d (x + 3 * 4 ^ d)))) := hr
    by_cases c : ok x (4 ^ (d + 1)) = true
    · rw [if_pos c, List.mem_singleton] at hr
      subst hr
      refine ⟨by show d + 1 ≤ 3; omega, ?_⟩
      show x + 4 ^ (d + 1) ≤ 64
      rw [Nat.pow_succ, hm]
      omega
    · rw [if_neg c, hm] at hr
      rcases List.mem_append.mp hr with hr | hr
      · exact h x (by omega) r hr
      · rcases List.mem_append.mp hr with hr | hr
        · exact h _ (by omega) r hr
        · rcases List.mem_append.mp hr with hr | hr
          · exact h _ (by omega) r hr
          · exact h _ (by omega) r hr
  have h1 := step 0 1 (by decide) rfl h0
  have h2 := step 1 4 (by decide) rfl h1
  have h3 := step 2 16 (by decide) rfl h2
  exact ⟨h0, h1, h2, h3⟩
theorem tbl_ok (f : Nat → Int64) : ∀ k, k < (tbl f).length → okRow ((tbl f).getD k (0, 0)) := by
  intro k hk
  have h := (reg_ok (uni 64 f)).2.2.2 0 (by decide)
  refine h _ ?_
  rw [List.getD_eq_getElem?_getD, List.getElem?_eq_getElem hk]
  exact List.getElem_mem hk
end
section
set_option maxRecDepth 100000 in
set_option maxHeartbeats 4000000 in
theorem m_respond (l : Launch) (G : va_G) (cA : Nat → ClassId) (mo ao af sa ea n : Nat) (fo : Nat → Int64) (th : Int32) (lw hg : Int64) (a x : Nat) (ha : a < 50) (hx0 : x < 64) : Met l yM_respond wsM_respond ({ frames := 2, cells := 0, slots := 0, locals := 44 }) (PH G cA [.ref mo, .int (nI a), .int (nI x)] (fun H => (ao ≠ mo ∧ ob G 4 mo (mF th ao af n lw hg sa ea) H ∧ al (cA 0) ao 3200 fo H))) (fun _ st o t => o = .returned none ∧ ob G 4 mo (mF th ao af n (rl 63 x (fo (64 * a + x)) 64) (rh 63 x (fo (64 * a + x)) 64) sa ea) t.heap ∧ t.heap.size = st.heap.size ∧ ∀ q, q ≠ mo → t.heap[q]? = st.heap[q]?) 0 0 (fun q => q = mo) := by
  refine Met.ofW (cc := cM_respond) (maxL := 7) (ret := none) (by decide) rfl ?_
  intro p e s m args below meth c s₁ B hml hv
  obtain ⟨hav, hKN, hne, hob, hal⟩ := hv
  have hK := hKN.1
  have hx := B.exec
  have hb := B.bytes
  have hrt := B.returns
  have htA : ∀ w ∈ ALL, w.before args s = true := fun w h => atoms_spec (ws := wsM_respond) B.pre w (List.mem_cons_of_mem _ h)
  have hown : s.vm.findClass RM = some m.cls := findClass_of_methodNamed B.named
  have hlocks := B.notSynchronized
  refine pw_nm (fun R Q hR hQ => ?_)
  refine pw_entry (vs := [.ref mo, .int (nI a), .int (nI x)]) hav (Nat.le_of_ble_eq_true rfl) (fun ls hl => ?_)
  have hl : lv_has ls 7 [(0, .ref mo), (1, .int (nI a)), (2, .int (nI x))] := hl
  have hz : s.heap.size = s.heap.size := rfl
  have hk : ∀ q, q ≠ mo → s.heap[q]? = s.heap[q]? := fun _ _ => rfl
  have hL : ∀ z ∈ ([] : List Loc), (fun q => q = mo) z.base := fun _ h => by cases h
  refine lv_aload_n hx hb dM_respond_0 rfl (lv_at hl 0 rfl) ?_
  refine lv_lconst (v := 0) hx hb dM_respond_1 rfl ?_
  refine pw_put (ci := 4) (C := RM) (T := TM) (N := 8) (ty := .long) (F := fun q => q = mo) hx hb htA inM tyM tyM_ok nmM hown hK hob rfl 4 (by decide) (htA _ wd439) (fun _ h9 => h9) rfl (by decide +kernel) rfl rfl (Nat.le_of_ble_eq_true rfl) hL rfl dM_respond_2 (fun H1 lc2 hob1 hz1 hk1 hL => ?_)
  have hob : ob G 4 mo (mF th ao af n 0 hg sa ea) H1 := hob1
  have hal := al_k hal (hk1 ao hne)
  have hk : ∀ q, q ≠ mo → H1[q]? = s.heap[q]? := fun q h1 => (hk1 q h1).trans (hk q h1)
  have hz := hz1.trans hz
  refine lv_aload_n hx hb dM_respond_5 rfl (lv_at hl 0 rfl) ?_
  refine lv_lconst (v := 0) hx hb dM_respond_6 rfl ?_
  refine pw_put (ci := 4) (C := RM) (T := TM) (N := 8) (ty := .long) (F := fun q => q = mo) hx hb htA inM tyM tyM_ok nmM hown hK hob rfl 5 (by decide) (htA _ wd440) (fun _ h9 => h9) rfl (by decide +kernel) rfl rfl (Nat.le_of_ble_eq_true rfl) hL rfl dM_respond_7 (fun H3 lc4 hob1 hz1 hk1 hL => ?_)
  have hob : ob G 4 mo (mF th ao af n 0 0 sa ea) H3 := hob1
  have hal := al_k hal (hk1 ao hne)
  have hk : ∀ q, q ≠ mo → H3[q]? = s.heap[q]? := fun q h1 => (hk1 q h1).trans (hk q h1)
  have hz := hz1.trans hz
  refine lv_aload_n hx hb dM_respond_10 rfl (lv_at hl 0 rfl) ?_
  refine va_get (D := G) (ci := 4) (v := .ref ao) (C := RM) (T := TM) (N := 8) hx hb htA inM hown hK (ob_P hob) 0 rfl rfl 1 (by decide) (htA _ wd436) (fun _ h9 => h9) rfl dM_respond_11 ?_
  refine lv_bipush (v := nI 64) hx hb dM_respond_14 (by decide) ?_
  refine lv_iload_n hx hb dM_respond_16 rfl (lv_at hl 1 rfl) ?_
  refine lv_imul hx hb dM_respond_17 ?_
  refine pw_ti (y := nI (64 * a)) (pk_mul _ _) ?_
  refine lv_iload_n hx hb dM_respond_18 rfl (lv_at hl 2 rfl) ?_
  refine lv_iadd hx hb dM_respond_19 ?_
  refine pw_ti (y := nI ((64 * a) + x)) (nI_add _ _) ?_
  refine pw_lald hx hb hK hal 0 rfl (by omega) (by decide) dM_respond_20 ?_
  refine lv_lstore_n (lv' := [(3, .long (fo ((64 * a) + x))), (0, .ref mo), (1, .int (nI a)), (2, .int (nI x))]) hx hb dM_respond_21 rfl hl (by decide) rfl (fun ls hl => ?_)
  refine lv_iconst (v := nI 0) hx hb dM_respond_22 (by decide) ?_
  refine lv_istore (lv' := [(5, .int (nI 0)), (3, .long (fo ((64 * a) + x))), (0, .ref mo), (1, .int (nI a)), (2, .int (nI x))]) hx hb dM_respond_23 hl (by decide) rfl (fun ls hl => ?_)
  have lp : ∀ (k i : Nat) (H8 : Heap) (lc8 : List Loc), i + k = 64 → (ob G 4 mo (mF th ao af n (rl 63 x (fo (64 * a + x)) i) (rh 63 x (fo (64 * a + x)) i) sa ea) H8) → (al (cA 0) ao 3200 fo H8) → (H8.size = s.heap.size) → (∀ q, q ≠ mo → H8[q]? = s.heap[q]?) → (∀ z ∈ lc8, (fun q => q = mo) z.base) → ∀ ls : Array Slot, lv_has ls 7 [(0, .ref mo), (1, .int (nI a)), (2, .int (nI x)), (3, .long (fo (64 * a + x))), (5, .int (nI i))] → W p l e R s m args below meth c H8 lc8 0 0 Q (F0 m 25 ls []) := by
    intro k
    induction k with
    | zero =>
      intro i H8 lc8 hik hob hal hz hk hL ls hl
      have hi : i = 64 := by omega
      subst hi
      refine lv_iload hx hb dM_respond_25 (lv_at hl 4 rfl) ?_
      refine lv_bipush (v := nI 64) hx hb dM_respond_27 (by decide) ?_
      refine lv_icmp_ge (tgt := 99) hx hb dM_respond_29 (by decide) (fun _ => ?_) (fun c9 => absurd (Int32.le_refl _) c9)
      rw [hQ]
      exact W.vret hx hb hrt (fun t ht hW => ⟨rfl, by rw [ht]; exact hob, by rw [ht]; exact hz, by rw [ht]; exact hk⟩) hL dM_respond_99
    | succ k ih =>
      intro i H8 lc8 hik hob hal hz hk hL ls hl
      have hi : i < 64 := by omega
      refine lv_iload hx hb dM_respond_25 (lv_at hl 4 rfl) ?_
      refine lv_bipush (v := nI 64) hx hb dM_respond_27 (by decide) ?_
      refine lv_icmp_ge (tgt := 99) hx hb dM_respond_29 (by decide) (fun c9 => absurd c9 (nI_ge hi (by decide))) (fun _ => ?_)
      refine lv_lload_n hx hb dM_respond_32 rfl (lv_at hl 3 rfl) ?_
      refine lv_iload hx hb dM_respond_33 (lv_at hl 4 rfl) ?_
      refine lv_lshr hx hb dM_respond_35 rfl ?_
      refine lv_lconst (v := 1) hx hb dM_respond_36 rfl ?_
      refine lv_land hx hb dM_respond_37 ?_
      refine lv_lconst (v := 0) hx hb dM_respond_38 rfl ?_
      refine W.lcmp hx hb dM_respond_39 ?_
      refine lv_if_ne (tgt := 46) hx hb dM_respond_40 (by decide) (fun c1 => ?_) (fun c1 => ?_)
      · have hq : hbit (fo (64 * a + x)) i = true := ts_nf (fun hz9 => c1 ((cmp0 _ _).mpr ((hb_sshr _ hi).mpr hz9)))
        refine lv_iload_n hx hb dM_respond_46 rfl (lv_at hl 2 rfl) ?_
        refine lv_iload hx hb dM_respond_47 (lv_at hl 4 rfl) ?_
        refine vp_callSi (va_Run.run (va_runS (As := [.int (nI x), .int (nI i)]) (rest := []) ⟨hx, hb, hml, hown, htA⟩ (m_action l G cA x hx0 i hi) (va_cwS 2 htA (gd_S wd555 wd556 wd28 wd557) rfl rfl rfl (by decide +kernel) (by rw [hR]; exact ⟨Nat.le_of_ble_eq_true rfl, Nat.le_of_ble_eq_true rfl⟩)) (pw_S hKN trivial) rfl rfl hl.1 rfl (lv_room (Nat.le_of_ble_eq_true rfl)) dM_respond_49 (by rw [hR]; exact ⟨Nat.le_of_ble_eq_true rfl, Nat.le_of_ble_eq_true rfl⟩))) (fun r5 hr5 => ?_)
        subst hr5
        have hact := act_lt x i
        refine lv_istore (lv' := [(6, .int (nI (act x i))), (0, .ref mo), (1, .int (nI a)), (2, .int (nI x)), (3, .long (fo (64 * a + x))), (5, .int (nI i))]) hx hb dM_respond_52 hl (by decide) rfl (fun ls hl => ?_)
        refine lv_iload hx hb dM_respond_54 (lv_at hl 0 rfl) ?_
        refine lv_bipush (v := nI 63) hx hb dM_respond_56 (by decide) ?_
        refine lv_icmp_ge (tgt := 77) hx hb dM_respond_58 (by decide) (fun c2 => ?_) (fun c2 => ?_)
        · have hq2 : ¬ act x i < 63 := by have := (nI_leI (by decide) (by omega)).mp c2; omega
          refine lv_aload_n hx hb dM_respond_77 rfl (lv_at hl 1 rfl) ?_
          refine lv_dup hx hb dM_respond_78 rfl ?_
          refine va_get (D := G) (ci := 4) (v := .long (rh 63 x (fo (64 * a + x)) i)) (C := RM) (T := TM) (N := 8) hx hb htA inM hown hK (ob_P hob) 0 rfl rfl 5 (by decide) (htA _ wd440) (fun _ h9 => h9) rfl dM_respond_79 ?_
          refine lv_lconst (v := 1) hx hb dM_respond_82 rfl ?_
          refine lv_iload hx hb dM_respond_83 (lv_at hl 0 rfl) ?_
          refine lv_bipush (v := nI 63) hx hb dM_respond_85 (by decide) ?_
          refine lv_isub hx hb dM_respond_87 ?_
          refine pw_ti (y := nI (act x i - 63)) (pk_sub (by omega)) ?_
          refine lv_lshl hx hb dM_respond_88 rfl ?_
          refine lv_lor hx hb dM_respond_89 ?_
          refine pw_tl (y := rh 63 x (fo (64 * a + x)) (i + 1)) (rh_z hq hq2) ?_
          refine pw_put (ci := 4) (C := RM) (T := TM) (N := 8) (ty := .long) (F := fun q => q = mo) hx hb htA inM tyM tyM_ok nmM hown hK hob rfl 5 (by decide) (htA _ wd440) (fun _ h9 => h9) rfl (by decide +kernel) rfl rfl (Nat.le_of_ble_eq_true rfl) hL rfl dM_respond_90 (fun H6 lc7 hob1 hz1 hk1 hL => ?_)
          have hob : ob G 4 mo (mF th ao af n (rl 63 x (fo (64 * a + x)) i) (rh 63 x (fo (64 * a + x)) (i + 1)) sa ea) H6 := hob1
          have hal := al_k hal (hk1 ao hne)
          have hk : ∀ q, q ≠ mo → H6[q]? = s.heap[q]? := fun q h1 => (hk1 q h1).trans (hk q h1)
          have hz := hz1.trans hz
          rw [rl_z hq hq2] at hob
          refine lv_iinc (v := nI (i + 1)) (lv' := [(5, .int (nI (i + 1))), (6, .int (nI (act x i))), (0, .ref mo), (1, .int (nI a)), (2, .int (nI x)), (3, .long (fo (64 * a + x)))]) hx hb dM_respond_93 hl (k := 5) rfl (nI_1 i) (by decide) rfl (fun ls hl => ?_)
          refine lv_goto (tgt := 25) hx hb dM_respond_96 (by decide) ?_
          exact ih (i + 1) H6 lc7 (by omega) hob hal hz hk hL ls (lv_sub hl [2, 3, 4, 5, 0] rfl)
        · have hq2 : act x i < 63 := by have : ¬ 63 ≤ act x i := fun q => c2 ((nI_leI (by decide) (by omega)).mpr q); omega
          refine lv_aload_n hx hb dM_respond_61 rfl (lv_at hl 1 rfl) ?_
          refine lv_dup hx hb dM_respond_62 rfl ?_
          refine va_get (D := G) (ci := 4) (v := .long (rl 63 x (fo (64 * a + x)) i)) (C := RM) (T := TM) (N := 8) hx hb htA inM hown hK (ob_P hob) 0 rfl rfl 4 (by decide) (htA _ wd439) (fun _ h9 => h9) rfl dM_respond_63 ?_
          refine lv_lconst (v := 1) hx hb dM_respond_66 rfl ?_
          refine lv_iload hx hb dM_respond_67 (lv_at hl 0 rfl) ?_
          refine lv_lshl hx hb dM_respond_69 rfl ?_
          refine lv_lor hx hb dM_respond_70 ?_
          refine pw_tl (y := rl 63 x (fo (64 * a + x)) (i + 1)) (rl_y hq hq2) ?_
          refine pw_put (ci := 4) (C := RM) (T := TM) (N := 8) (ty := .long) (F := fun q => q = mo) hx hb htA inM tyM tyM_ok nmM hown hK hob rfl 4 (by decide) (htA _ wd439) (fun _ h9 => h9) rfl (by decide +kernel) rfl rfl (Nat.le_of_ble_eq_true rfl) hL rfl dM_respond_71 (fun H6 lc7 hob1 hz1 hk1 hL => ?_)
          have hob : ob G 4 mo (mF th ao af n (rl 63 x (fo (64 * a + x)) (i + 1)) (rh 63 x (fo (64 * a + x)) i) sa ea) H6 := hob1
          have hal := al_k hal (hk1 ao hne)
          have hk : ∀ q, q ≠ mo → H6[q]? = s.heap[q]? := fun q h1 => (hk1 q h1).trans (hk q h1)
          have hz := hz1.trans hz
          rw [rh_y hq hq2] at hob
          refine lv_goto (tgt := 93) hx hb dM_respond_74 (by decide) ?_
          refine lv_iinc (v := nI (i + 1)) (lv' := [(5, .int (nI (i + 1))), (6, .int (nI (act x i))), (0, .ref mo), (1, .int (nI a)), (2, .int (nI x)), (3, .long (fo (64 * a + x)))]) hx hb dM_respond_93 hl (k := 5) rfl (nI_1 i) (by decide) rfl (fun ls hl => ?_)
          refine lv_goto (tgt := 25) hx hb dM_respond_96 (by decide) ?_
          exact ih (i + 1) H6 lc7 (by omega) hob hal hz hk hL ls (lv_sub hl [2, 3, 4, 5, 0] rfl)
      · have hq : hbit (fo (64 * a + x)) i = false := (hb_sshr _ hi).mp ((cmp0 _ _).mp c1)
        rw [rl_n hq, rh_n hq] at hob
        refine lv_goto (tgt := 93) hx hb dM_respond_43 (by decide) ?_
        refine lv_iinc (v := nI (i + 1)) (lv' := [(5, .int (nI (i + 1))), (0, .ref mo), (1, .int (nI a)), (2, .int (nI x)), (3, .long (fo (64 * a + x)))]) hx hb dM_respond_93 hl (k := 4) rfl (nI_1 i) (by decide) rfl (fun ls hl => ?_)
        refine lv_goto (tgt := 25) hx hb dM_respond_96 (by decide) ?_
        exact ih (i + 1) H8 lc8 (by omega) hob hal hz hk hL ls (lv_sub hl [1, 2, 3, 4, 0] rfl)
  exact lp (64) 0 H3 lc4 (by omega) hob hal hz hk hL ls (lv_sub hl [2, 3, 4, 1, 0] rfl)

set_option maxRecDepth 100000 in
set_option maxHeartbeats 4000000 in
theorem m_uniform (l : Launch) (G : va_G) (cA : Nat → ClassId) (mo ao af sa ea n : Nat) (fo : Nat → Int64) (th : Int32) (lw hg : Int64) (a x m0 : Nat) (ha : a < 50) (hm : 1 ≤ m0) (hx0 : x + m0 ≤ 64) : Met l yM_uniform wsM_uniform ({ frames := 3, cells := 0, slots := 0, locals := 70 }) (PH G cA [.ref mo, .int (nI a), .int (nI x), .int (nI m0)] (fun H => (ao ≠ mo ∧ ob G 4 mo (mF th ao af n lw hg sa ea) H ∧ al (cA 0) ao 3200 fo H))) (fun _ st o t => o = .returned (some (.int (bI (uni 63 (fun k => fo (64 * a + k)) x m0)))) ∧ (∃ lw2 hg2, ob G 4 mo (mF th ao af n lw2 hg2 sa ea) t.heap) ∧ t.heap.size = st.heap.size ∧ ∀ q, q ≠ mo → t.heap[q]? = st.heap[q]?) 0 0 (fun q => q = mo) := by
  refine Met.ofW (cc := cM_uniform) (maxL := 9) (ret := (some .boolean)) (by decide) rfl ?_
  intro p e s m args below meth c s₁ B hml hv
  obtain ⟨hav, hKN, hne, hob, hal⟩ := hv
  have hK := hKN.1
  have hx := B.exec
  have hb := B.bytes
  have hrt := B.returns
  have htA : ∀ w ∈ ALL, w.before args s = true := fun w h => atoms_spec (ws := wsM_uniform) B.pre w (List.mem_cons_of_mem _ h)
  have hown : s.vm.findClass RM = some m.cls := findClass_of_methodNamed B.named
  have hlocks := B.notSynchronized
  refine pw_nm (fun R Q hR hQ => ?_)
  refine pw_entry (vs := [.ref mo, .int (nI a), .int (nI x), .int (nI m0)]) hav (Nat.le_of_ble_eq_true rfl) (fun ls hl => ?_)
  have hl : lv_has ls 9 [(0, .ref mo), (1, .int (nI a)), (2, .int (nI x)), (3, .int (nI m0))] := hl
  have hz : s.heap.size = s.heap.size := rfl
  have hk : ∀ q, q ≠ mo → s.heap[q]? = s.heap[q]? := fun _ _ => rfl
  have hL : ∀ z ∈ ([] : List Loc), (fun q => q = mo) z.base := fun _ h => by cases h
  refine lv_aload_n hx hb dM_uniform_0 rfl (lv_at hl 0 rfl) ?_
  refine lv_iload_n hx hb dM_uniform_1 rfl (lv_at hl 1 rfl) ?_
  refine lv_iload_n hx hb dM_uniform_2 rfl (lv_at hl 2 rfl) ?_
  refine pw_call (F := fun q => q = mo) (va_runV (As := [.int (nI a), .int (nI x)]) (rest := []) ⟨hx, hb, hml, hown, htA⟩ (m_respond l G cA mo ao af sa ea n fo th lw hg a x ha (by omega)) (cwV 2 htA (gd_V wd551 wd553 wd24 wd28 wd554) rfl rfl rfl (by decide +kernel) (by rw [hR]; exact ⟨Nat.le_of_ble_eq_true rfl, Nat.le_of_ble_eq_true rfl⟩)) (pw_V (ci := 4) (q := (RM, TM, 8)) hKN hob rfl ⟨hne, hob, hal⟩) rfl rfl hl.1 rfl (lv_room (Nat.le_of_ble_eq_true rfl)) dM_uniform_3 (by rw [hR]; exact ⟨Nat.le_of_ble_eq_true rfl, Nat.le_of_ble_eq_true rfl⟩)) hL (fun q h => h) (fun v9 st9 t9 lc2 h0 ha9 hL hq9 => ?_)
  obtain ⟨hv9, hob, hz1, hk1⟩ := hq9
  cases hv9
  rw [h0] at hz1 hk1
  generalize t9.heap = H1 at hob hz1 hk1 ⊢
  have hal := al_k hal (hk1 ao hne)
  have hk : ∀ q, q ≠ mo → H1[q]? = s.heap[q]? := fun q h1 => (hk1 q h1).trans (hk q h1)
  have hz := hz1.trans hz
  refine lv_aload_n hx hb dM_uniform_6 rfl (lv_at hl 0 rfl) ?_
  refine va_get (D := G) (ci := 4) (v := .long (rl 63 x (fo (64 * a + x)) 64)) (C := RM) (T := TM) (N := 8) hx hb htA inM hown hK (ob_P hob) 0 rfl rfl 4 (by decide) (htA _ wd439) (fun _ h9 => h9) rfl dM_uniform_7 ?_
  refine lv_lstore (lv' := [(4, .long (rl 63 x (fo (64 * a + x)) 64)), (0, .ref mo), (1, .int (nI a)), (2, .int (nI x)), (3, .int (nI m0))]) hx hb dM_uniform_10 hl (by decide) rfl (fun ls hl => ?_)
  refine lv_aload_n hx hb dM_uniform_12 rfl (lv_at hl 1 rfl) ?_
  refine va_get (D := G) (ci := 4) (v := .long (rh 63 x (fo (64 * a + x)) 64)) (C := RM) (T := TM) (N := 8) hx hb htA inM hown hK (ob_P hob) 0 rfl rfl 5 (by decide) (htA _ wd440) (fun _ h9 => h9) rfl dM_uniform_13 ?_
  refine lv_lstore (lv' := [(6, .long (rh 63 x (fo (64 * a + x)) 64)), (4, .long (rl 63 x (fo (64 * a + x)) 64)), (0, .ref mo), (1, .int (nI a)), (2, .int (nI x)), (3, .int (nI m0))]) hx hb dM_uniform_16 hl (by decide) rfl (fun ls hl => ?_)
  refine lv_iload_n hx hb dM_uniform_18 rfl (lv_at hl 4 rfl) ?_
  refine lv_iconst (v := nI 1) hx hb dM_uniform_19 (by decide) ?_
  refine lv_iadd hx hb dM_uniform_20 ?_
  refine pw_ti (y := nI (x + 1)) (nI_add _ _) ?_
  refine lv_istore (lv' := [(8, .int (nI (x + 1))), (6, .long (rh 63 x (fo (64 * a + x)) 64)), (4, .long (rl 63 x (fo (64 * a + x)) 64)), (0, .ref mo), (1, .int (nI a)), (2, .int (nI x)), (3, .int (nI m0))]) hx hb dM_uniform_21 hl (by decide) rfl (fun ls hl => ?_)
  have lp : ∀ (k i : Nat) (H8 : Heap) (lc8 : List Loc), i + k = m0 → (∃ lw2 hg2, ob G 4 mo (mF th ao af n lw2 hg2 sa ea) H8) → (al (cA 0) ao 3200 fo H8) → (H8.size = s.heap.size) → (∀ q, q ≠ mo → H8[q]? = s.heap[q]?) → (∀ z ∈ lc8, (fun q => q = mo) z.base) → (∀ q, q < i → rl 63 (x + q) (fo (64 * a + (x + q))) 64 = rl 63 x (fo (64 * a + x)) 64 ∧ rh 63 (x + q) (fo (64 * a + (x + q))) 64 = rh 63 x (fo (64 * a + x)) 64) → ∀ ls : Array Slot, lv_has ls 9 [(0, .ref mo), (1, .int (nI a)), (2, .int (nI x)), (3, .int (nI m0)), (4, .long (rl 63 x (fo (64 * a + x)) 64)), (6, .long (rh 63 x (fo (64 * a + x)) 64)), (8, .int (nI (x + i)))] → W p l e R s m args below meth c H8 lc8 0 0 Q (F0 m 23 ls []) := by
    intro k
    induction k with
    | zero =>
      intro i H8 lc8 hik hob hal hz hk hL hinv ls hl
      have hi : i = m0 := by omega
      subst hi
      obtain ⟨lw2, hg2, hob⟩ := hob
      refine lv_iload hx hb dM_uniform_23 (lv_at hl 6 rfl) ?_
      refine lv_iload_n hx hb dM_uniform_25 rfl (lv_at hl 2 rfl) ?_
      refine lv_iload_n hx hb dM_uniform_26 rfl (lv_at hl 3 rfl) ?_
      refine lv_iadd hx hb dM_uniform_27 ?_
      refine pw_ti (y := nI (x + i)) (nI_add _ _) ?_
      refine lv_icmp_ge (tgt := 66) hx hb dM_uniform_28 (by decide) (fun _ => ?_) (fun c9 => absurd (Int32.le_refl _) c9)
      refine lv_iconst (v := nI 1) hx hb dM_uniform_66 (by decide) ?_
      rw [hQ]
      exact W.zret (v := nI 1) (ty := .boolean) hx hb hrt (by rfl) (fun t ht hW => ⟨by rw [uni_t (th := 63) (f := (fun k => fo (64 * a + k))) (x := x) (n := i) hinv]; rfl, ⟨_, _, by rw [ht]; exact hob⟩, by rw [ht]; exact hz, by rw [ht]; exact hk⟩) hL dM_uniform_67
    | succ k ih =>
      intro i H8 lc8 hik hob hal hz hk hL hinv ls hl
      have hi : i < m0 := by omega
      obtain ⟨lw2, hg2, hob⟩ := hob
      refine lv_iload hx hb dM_uniform_23 (lv_at hl 6 rfl) ?_
      refine lv_iload_n hx hb dM_uniform_25 rfl (lv_at hl 2 rfl) ?_
      refine lv_iload_n hx hb dM_uniform_26 rfl (lv_at hl 3 rfl) ?_
      refine lv_iadd hx hb dM_uniform_27 ?_
      refine pw_ti (y := nI (x + m0)) (nI_add _ _) ?_
      refine lv_icmp_ge (tgt := 66) hx hb dM_uniform_28 (by decide) (fun c9 => absurd c9 (nI_ge (by omega) (by omega))) (fun _ => ?_)
      refine lv_aload_n hx hb dM_uniform_31 rfl (lv_at hl 0 rfl) ?_
      refine lv_iload_n hx hb dM_uniform_32 rfl (lv_at hl 1 rfl) ?_
      refine lv_iload hx hb dM_uniform_33 (lv_at hl 6 rfl) ?_
      refine pw_call (F := fun q => q = mo) (va_runV (As := [.int (nI a), .int (nI (x + i))]) (rest := []) ⟨hx, hb, hml, hown, htA⟩ (m_respond l G cA mo ao af sa ea n fo th lw2 hg2 a (x + i) ha (by omega)) (cwV 2 htA (gd_V wd551 wd553 wd24 wd28 wd554) rfl rfl rfl (by decide +kernel) (by rw [hR]; exact ⟨Nat.le_of_ble_eq_true rfl, Nat.le_of_ble_eq_true rfl⟩)) (pw_V (ci := 4) (q := (RM, TM, 8)) hKN hob rfl ⟨hne, hob, hal⟩) rfl rfl hl.1 rfl (lv_room (Nat.le_of_ble_eq_true rfl)) dM_uniform_35 (by rw [hR]; exact ⟨Nat.le_of_ble_eq_true rfl, Nat.le_of_ble_eq_true rfl⟩)) hL (fun q h => h) (fun v9 st9 t9 lc4 h0 ha9 hL hq9 => ?_)
      obtain ⟨hv9, hob, hz1, hk1⟩ := hq9
      cases hv9
      rw [h0] at hz1 hk1
      generalize t9.heap = H3 at hob hz1 hk1 ⊢
      have hal := al_k hal (hk1 ao hne)
      have hk : ∀ q, q ≠ mo → H3[q]? = s.heap[q]? := fun q h1 => (hk1 q h1).trans (hk q h1)
      have hz := hz1.trans hz
      refine lv_aload_n hx hb dM_uniform_38 rfl (lv_at hl 0 rfl) ?_
      refine va_get (D := G) (ci := 4) (v := .long (rl 63 (x + i) (fo (64 * a + (x + i))) 64)) (C := RM) (T := TM) (N := 8) hx hb htA inM hown hK (ob_P hob) 0 rfl rfl 4 (by decide) (htA _ wd439) (fun _ h9 => h9) rfl dM_uniform_39 ?_
      refine lv_lload hx hb dM_uniform_42 (lv_at hl 4 rfl) ?_
      refine W.lcmp hx hb dM_uniform_44 ?_
      refine lv_if_ne (tgt := 58) hx hb dM_uniform_45 (by decide) (fun c1 => ?_) (fun c1 => ?_)
      · refine lv_iconst (v := nI 0) hx hb dM_uniform_58 (by decide) ?_
        rw [hQ]
        exact W.zret (v := nI 0) (ty := .boolean) hx hb hrt (by rfl) (fun t ht hW => ⟨by rw [uni_f (th := 63) (f := (fun k => fo (64 * a + k))) (x := x) (n := m0) (q := i) hi (fun q => c1 ((cmp0 _ _).mpr q.1))]; rfl, ⟨_, _, by rw [ht]; exact hob⟩, by rw [ht]; exact hz, by rw [ht]; exact hk⟩) hL dM_uniform_59
      · have hq := (cmp0 _ _).mp c1
        refine lv_aload_n hx hb dM_uniform_48 rfl (lv_at hl 0 rfl) ?_
        refine va_get (D := G) (ci := 4) (v := .long (rh 63 (x + i) (fo (64 * a + (x + i))) 64)) (C := RM) (T := TM) (N := 8) hx hb htA inM hown hK (ob_P hob) 0 rfl rfl 5 (by decide) (htA _ wd440) (fun _ h9 => h9) rfl dM_uniform_49 ?_
        refine lv_lload hx hb dM_uniform_52 (lv_at hl 5 rfl) ?_
        refine W.lcmp hx hb dM_uniform_54 ?_
        refine lv_if_eq (tgt := 60) hx hb dM_uniform_55 (by decide) (fun c2 => ?_) (fun c2 => ?_)
        · have hq2 := (cmp0 _ _).mp c2
          refine lv_iinc (v := nI ((x + i) + 1)) (lv' := [(8, .int (nI ((x + i) + 1))), (0, .ref mo), (1, .int (nI a)), (2, .int (nI x)), (3, .int (nI m0)), (4, .long (rl 63 x (fo (64 * a + x)) 64)), (6, .long (rh 63 x (fo (64 * a + x)) 64))]) hx hb dM_uniform_60 hl (k := 6) rfl (nI_1 (x + i)) (by decide) rfl (fun ls hl => ?_)
          refine lv_goto (tgt := 23) hx hb dM_uniform_63 (by decide) ?_
          exact ih (i + 1) H3 lc4 (by omega) (⟨_, _, hob⟩) hal hz hk hL (lt_s hinv ⟨hq, hq2⟩) ls (lv_sub hl [1, 2, 3, 4, 5, 6, 0] rfl)
        · refine lv_iconst (v := nI 0) hx hb dM_uniform_58 (by decide) ?_
          rw [hQ]
          exact W.zret (v := nI 0) (ty := .boolean) hx hb hrt (by rfl) (fun t ht hW => ⟨by rw [uni_f (th := 63) (f := (fun k => fo (64 * a + k))) (x := x) (n := m0) (q := i) hi (fun q => c2 ((cmp0 _ _).mpr q.2))]; rfl, ⟨_, _, by rw [ht]; exact hob⟩, by rw [ht]; exact hz, by rw [ht]; exact hk⟩) hL dM_uniform_59
  exact lp (m0 - 1) 1 H1 lc2 (by omega) (⟨_, _, hob⟩) hal hz hk hL (fun q hq => by have e9 : q = 0 := (by omega); subst e9; exact ⟨rfl, rfl⟩) ls (lv_sub hl [3, 4, 5, 6, 2, 1, 0] rfl)
end
section
set_option maxRecDepth 100000 in
set_option maxHeartbeats 4000000 in
theorem m_table (l : Launch) (G : va_G) (cA : Nat → ClassId) (mo ao af sa ea n : Nat) (fo : Nat → Int64) (fb : Nat → Int32) (th : Int32) (a : Nat) (ha : a < 50) : Met l yM_table wsM_table ({ frames := 4, cells := 0, slots := 0, locals := 98 }) (PH G cA [.ref mo, .int (nI a)] (fun H => (mA mo ao af sa ea ∧ mV G cA mo ao af sa ea n fo fb th H))) (fun _ st o t => o = .returned (some (.int (nI (tbl (fun k => fo (64 * a + k))).length))) ∧ (∃ lw hg fS fE, mvS G cA mo ao af sa ea n fo fb th lw hg fS fE t.heap ∧ rowsOf (tbl (fun k => fo (64 * a + k))) fS fE) ∧ t.heap.size = st.heap.size ∧ ∀ q, q ≠ mo → q ≠ sa → q ≠ ea → t.heap[q]? = st.heap[q]?) 0 0 (mW mo sa ea) := by
  refine Met.ofW (cc := cM_table) (maxL := 5) (ret := (some .int)) (by decide) rfl ?_
  intro p e s m args below meth c s₁ B hml hv
  obtain ⟨hav, hKN, hA, lw, hg, fS, fE, hob, hal, hab, hsl, hel⟩ := hv
  have hK := hKN.1
  have hx := B.exec
  have hb := B.bytes
  have hrt := B.returns
  have htA : ∀ w ∈ ALL, w.before args s = true := fun w h => atoms_spec (ws := wsM_table) B.pre w (List.mem_cons_of_mem _ h)
  have hown : s.vm.findClass RM = some m.cls := findClass_of_methodNamed B.named
  have hlocks := B.notSynchronized
  refine pw_nm (fun R Q hR hQ => ?_)
  refine pw_entry (vs := [.ref mo, .int (nI a)]) hav (Nat.le_of_ble_eq_true rfl) (fun ls hl => ?_)
  have hl : lv_has ls 5 [(0, .ref mo), (1, .int (nI a))] := hl
  refine lv_iconst (v := nI 0) hx hb dM_table_0 (by decide) ?_
  refine lv_istore_n (lv' := [(2, .int (nI 0)), (0, .ref mo), (1, .int (nI a))]) hx hb dM_table_1 rfl hl (by decide) rfl (fun ls hl => ?_)
  refine lv_iconst (v := nI 0) hx hb dM_table_2 (by decide) ?_
  refine lv_istore_n (lv' := [(3, .int (nI 0)), (2, .int (nI 0)), (0, .ref mo), (1, .int (nI a))]) hx hb dM_table_3 rfl hl (by decide) rfl (fun ls hl => ?_)
  have lp : ∀ (k y : Nat) (D : List (Nat × Nat)) (fl : Nat) (H8 : Heap) (lc8 : List Loc) (lw : Int64) (hg : Int64) (fS : Nat → Int32) (fE : Nat → Int32), 64 ≤ y + k → (y ≤ 64) → (D.length ≤ y) → (64 - y ≤ fl) → ((tbl (fun k => fo (64 * a + k))) = D ++ grd (uni 64 (fun k => fo (64 * a + k))) fl y) → (rowsOf D fS fE) → (ob G 4 mo (mF th ao af n lw hg sa ea) H8) → (al (cA 0) ao 3200 fo H8) → (ai (cA 3) af 50 fb H8) → (ai (cA 1) sa 64 fS H8) → (ai (cA 1) ea 64 fE H8) → (H8.size = s.heap.size) → (∀ q, q ≠ mo → q ≠ sa → q ≠ ea → H8[q]? = s.heap[q]?) → (∀ z ∈ lc8, mW mo sa ea z.base) → ∀ ls : Array Slot, lv_has ls 5 [(0, .ref mo), (1, .int (nI a)), (2, .int (nI D.length)), (3, .int (nI y))] → W p l e R s m args below meth c H8 lc8 0 0 Q (F0 m 4 ls []) := by
    intro k
    induction k with
    | zero =>
      intro y D fl H8 lc8 lw hg fS fE hik hy64 hDy hfl hT hrows hob hal hab hsl hel hz hk hL ls hl
      have hy : y = 64 := by omega
      subst hy
      rw [grd_end, List.append_nil] at hT
      rw [← hT] at hrows hl
      refine lv_iload_n hx hb dM_table_4 rfl (lv_at hl 3 rfl) ?_
      refine lv_bipush (v := nI 64) hx hb dM_table_5 (by decide) ?_
      refine lv_icmp_ge (tgt := 67) hx hb dM_table_7 (by decide) (fun _ => ?_) (fun c9 => absurd (Int32.le_refl _) c9)
      refine lv_iload_n hx hb dM_table_67 rfl (lv_at hl 2 rfl) ?_
      rw [hQ]
      exact W.iret (v := nI (tbl (fun k => fo (64 * a + k))).length) hx hb hrt (fun t ht hW => ⟨rfl, ⟨lw, hg, fS, fE, by rw [ht]; exact ⟨hob, hal, hab, hsl, hel⟩, hrows⟩, by rw [ht]; exact hz, by rw [ht]; exact hk⟩) hL dM_table_68
    | succ k ih =>
      intro y D fl H8 lc8 lw hg fS fE hik hy64 hDy hfl hT hrows hob hal hab hsl hel hz hk hL ls hl
      refine lv_iload_n hx hb dM_table_4 rfl (lv_at hl 3 rfl) ?_
      refine lv_bipush (v := nI 64) hx hb dM_table_5 (by decide) ?_
      refine lv_icmp_ge (tgt := 67) hx hb dM_table_7 (by decide) (fun c1 => ?_) (fun c1 => ?_)
      · have hge := (nI_leI (by decide) (by omega)).mp c1
        have hy : y = 64 := by omega
        subst hy
        rw [grd_end, List.append_nil] at hT
        rw [← hT] at hrows hl
        refine lv_iload_n hx hb dM_table_67 rfl (lv_at hl 2 rfl) ?_
        rw [hQ]
        exact W.iret (v := nI (tbl (fun k => fo (64 * a + k))).length) hx hb hrt (fun t ht hW => ⟨rfl, ⟨lw, hg, fS, fE, by rw [ht]; exact ⟨hob, hal, hab, hsl, hel⟩, hrows⟩, by rw [ht]; exact hz, by rw [ht]; exact hk⟩) hL dM_table_68
      · have hlt : y < 64 := by have : ¬ 64 ≤ y := fun q => c1 ((nI_leI (by decide) (by omega)).mpr q); omega
        refine lv_bipush (v := nI 64) hx hb dM_table_10 (by decide) ?_
        refine lv_istore (lv' := [(4, .int (nI 64)), (0, .ref mo), (1, .int (nI a)), (2, .int (nI D.length)), (3, .int (nI y))]) hx hb dM_table_12 hl (by decide) rfl (fun ls hl => ?_)
        refine lv_iload_n hx hb dM_table_14 rfl (lv_at hl 4 rfl) ?_
        refine lv_iload hx hb dM_table_15 (lv_at hl 0 rfl) ?_
        refine lv_irem hx hb dM_table_17 (by decide) ?_
        refine pw_ti (y := nI (y % 64)) (pk_rem (by omega) (by decide) (by decide)) ?_
        refine lv_if_ne (tgt := 32) hx hb dM_table_18 (by decide) (fun e3 => ?_) (fun e3 => ?_)
        · have n3 : ¬ (y % 64 = 0 ∧ (uni 64 (fun k => fo (64 * a + k))) y 64 = true) := fun q9 => e3 (by rw [q9.1]; rfl)
          refine lv_iload hx hb dM_table_32 (lv_at hl 0 rfl) ?_
          refine lv_iconst (v := nI 4) hx hb dM_table_34 (by decide) ?_
          refine lv_idiv hx hb dM_table_35 (by decide) ?_
          refine pw_ti (y := nI 16) (by decide) ?_
          refine lv_istore (lv' := [(4, .int (nI 16)), (0, .ref mo), (1, .int (nI a)), (2, .int (nI D.length)), (3, .int (nI y))]) hx hb dM_table_36 hl (by decide) rfl (fun ls hl => ?_)
          refine lv_goto (tgt := 14) hx hb dM_table_38 (by decide) ?_
          refine lv_iload_n hx hb dM_table_14 rfl (lv_at hl 4 rfl) ?_
          refine lv_iload hx hb dM_table_15 (lv_at hl 0 rfl) ?_
          refine lv_irem hx hb dM_table_17 (by decide) ?_
          refine pw_ti (y := nI (y % 16)) (pk_rem (by omega) (by decide) (by decide)) ?_
          refine lv_if_ne (tgt := 32) hx hb dM_table_18 (by decide) (fun e2 => ?_) (fun e2 => ?_)
          · have n2 : ¬ (y % 16 = 0 ∧ (uni 64 (fun k => fo (64 * a + k))) y 16 = true) := fun q9 => e2 (by rw [q9.1]; rfl)
            refine lv_iload hx hb dM_table_32 (lv_at hl 0 rfl) ?_
            refine lv_iconst (v := nI 4) hx hb dM_table_34 (by decide) ?_
            refine lv_idiv hx hb dM_table_35 (by decide) ?_
            refine pw_ti (y := nI 4) (by decide) ?_
            refine lv_istore (lv' := [(4, .int (nI 4)), (0, .ref mo), (1, .int (nI a)), (2, .int (nI D.length)), (3, .int (nI y))]) hx hb dM_table_36 hl (by decide) rfl (fun ls hl => ?_)
            refine lv_goto (tgt := 14) hx hb dM_table_38 (by decide) ?_
            refine lv_iload_n hx hb dM_table_14 rfl (lv_at hl 4 rfl) ?_
            refine lv_iload hx hb dM_table_15 (lv_at hl 0 rfl) ?_
            refine lv_irem hx hb dM_table_17 (by decide) ?_
            refine pw_ti (y := nI (y % 4)) (pk_rem (by omega) (by decide) (by decide)) ?_
            refine lv_if_ne (tgt := 32) hx hb dM_table_18 (by decide) (fun e1 => ?_) (fun e1 => ?_)
            · have n1 : ¬ (y % 4 = 0 ∧ (uni 64 (fun k => fo (64 * a + k))) y 4 = true) := fun q9 => e1 (by rw [q9.1]; rfl)
              refine lv_iload hx hb dM_table_32 (lv_at hl 0 rfl) ?_
              refine lv_iconst (v := nI 4) hx hb dM_table_34 (by decide) ?_
              refine lv_idiv hx hb dM_table_35 (by decide) ?_
              refine pw_ti (y := nI 1) (by decide) ?_
              refine lv_istore (lv' := [(4, .int (nI 1)), (0, .ref mo), (1, .int (nI a)), (2, .int (nI D.length)), (3, .int (nI y))]) hx hb dM_table_36 hl (by decide) rfl (fun ls hl => ?_)
              refine lv_goto (tgt := 14) hx hb dM_table_38 (by decide) ?_
              refine lv_iload_n hx hb dM_table_14 rfl (lv_at hl 4 rfl) ?_
              refine lv_iload hx hb dM_table_15 (lv_at hl 0 rfl) ?_
              refine lv_irem hx hb dM_table_17 (by decide) ?_
              refine pw_ti (y := nI (y % 1)) (pk_rem (by omega) (by decide) (by decide)) ?_
              have hm0 : y % 1 = 0 := Nat.mod_one y
              rw [hm0]
              refine lv_if_ne (tgt := 32) hx hb dM_table_18 (by decide) (fun c9 => absurd rfl c9) (fun _ => ?_)
              refine lv_aload_n hx hb dM_table_21 rfl (lv_at hl 1 rfl) ?_
              refine lv_iload_n hx hb dM_table_22 rfl (lv_at hl 2 rfl) ?_
              refine lv_iload_n hx hb dM_table_23 rfl (lv_at hl 4 rfl) ?_
              refine lv_iload hx hb dM_table_24 (lv_at hl 0 rfl) ?_
              refine pw_call (F := mW mo sa ea) (va_runV (As := [.int (nI a), .int (nI y), .int (nI 1)]) (rest := []) ⟨hx, hb, hml, hown, htA⟩ (m_uniform l G cA mo ao af sa ea n fo th lw hg a y 1 ha (by decide) (by omega)) (cwV 3 htA (gd_V wd547 wd549 wd23 wd28 wd550) rfl rfl rfl (by decide +kernel) (by rw [hR]; exact ⟨Nat.le_of_ble_eq_true rfl, Nat.le_of_ble_eq_true rfl⟩)) (pw_V (ci := 4) (q := (RM, TM, 8)) hKN hob rfl ⟨hA.1, hob, hal⟩) rfl rfl hl.1 rfl (lv_room (Nat.le_of_ble_eq_true rfl)) dM_table_26 (by rw [hR]; exact ⟨Nat.le_of_ble_eq_true rfl, Nat.le_of_ble_eq_true rfl⟩)) hL (fun q h => Or.inl h) (fun v9 st9 t9 lc2 h0 ha9 hL hq9 => ?_)
              obtain ⟨hv9, ⟨lw3, hg4, hob⟩, hz1, hk1⟩ := hq9
              cases hv9
              rw [h0] at hz1 hk1
              generalize t9.heap = H1 at hob hz1 hk1 ⊢
              have hal := al_k hal (hk1 ao hA.1)
              have hab := ai_k hab (hk1 af hA.2.1)
              have hsl := ai_k hsl (hk1 sa hA.2.2.1)
              have hel := ai_k hel (hk1 ea hA.2.2.2.1)
              have hk : ∀ q, q ≠ mo → q ≠ sa → q ≠ ea → H1[q]? = s.heap[q]? := fun q h1 h2 h3 => (hk1 q h1).trans (hk q h1 h2 h3)
              have hz := hz1.trans hz
              have h63 := uni_63 (fun k => fo (64 * a + k)) y 1
              refine pw_ti (y := bI (uni 64 (fun k => fo (64 * a + k)) y 1)) (by rw [h63]) ?_
              rw [uni_1]
              refine lv_if_ne (tgt := 41) hx hb dM_table_29 (by decide) (fun _ => ?_) (fun c9 => absurd c9 (by decide))
              have hgz : gz (uni 64 (fun k => fo (64 * a + k))) y = 0 := (by unfold gz; rw [if_neg n3, if_neg n2, if_neg n1])
              obtain ⟨f2, rfl⟩ : ∃ f2, fl = f2 + 1 := ⟨fl - 1, by omega⟩
              rw [grd_s hlt, hgz] at hT
              refine lv_aload_n hx hb dM_table_41 rfl (lv_at hl 1 rfl) ?_
              refine va_get (D := G) (ci := 4) (v := .ref sa) (C := RM) (T := TM) (N := 8) hx hb htA inM hown hK (ob_P hob) 0 rfl rfl 6 (by decide) (htA _ wd441) (fun _ h9 => h9) rfl dM_table_42 ?_
              refine lv_iload_n hx hb dM_table_45 rfl (lv_at hl 3 rfl) ?_
              refine lv_iload_n hx hb dM_table_46 rfl (lv_at hl 4 rfl) ?_
              refine pw_iast (F := mW mo sa ea) hx hb hK hsl 1 rfl (show D.length < 64 by omega) (by decide) hL (Or.inr (Or.inl rfl)) dM_table_47 (fun H6 lc6 hsl hz1 hk1 hL => ?_)
              have hob := ob_k hob (hk1 mo (Ne.symm hA.2.2.1))
              have hal := al_k hal (hk1 ao hA.2.2.2.2.1)
              have hab := ai_k hab (hk1 af hA.2.2.2.2.2.2.1)
              have hel := ai_k hel (hk1 ea (Ne.symm hA.2.2.2.2.2.2.2.2.1))
              have hk : ∀ q, q ≠ mo → q ≠ sa → q ≠ ea → H6[q]? = s.heap[q]? := fun q h1 h2 h3 => (hk1 q h2).trans (hk q h1 h2 h3)
              have hz := hz1.trans hz
              refine lv_aload_n hx hb dM_table_48 rfl (lv_at hl 1 rfl) ?_
              refine va_get (D := G) (ci := 4) (v := .ref ea) (C := RM) (T := TM) (N := 8) hx hb htA inM hown hK (ob_P hob) 0 rfl rfl 7 (by decide) (htA _ wd442) (fun _ h9 => h9) rfl dM_table_49 ?_
              refine lv_iload_n hx hb dM_table_52 rfl (lv_at hl 3 rfl) ?_
              refine lv_iload hx hb dM_table_53 (lv_at hl 0 rfl) ?_
              refine pw_iast (F := mW mo sa ea) hx hb hK hel 1 rfl (show D.length < 64 by omega) (by decide) hL (Or.inr (Or.inr rfl)) dM_table_55 (fun H7 lc7 hel hz1 hk1 hL => ?_)
              have hob := ob_k hob (hk1 mo (Ne.symm hA.2.2.2.1))
              have hal := al_k hal (hk1 ao hA.2.2.2.2.2.1)
              have hab := ai_k hab (hk1 af hA.2.2.2.2.2.2.2.1)
              have hsl := ai_k hsl (hk1 sa hA.2.2.2.2.2.2.2.2.1)
              have hk : ∀ q, q ≠ mo → q ≠ sa → q ≠ ea → H7[q]? = s.heap[q]? := fun q h1 h2 h3 => (hk1 q h3).trans (hk q h1 h2 h3)
              have hz := hz1.trans hz
              refine lv_iinc (v := nI (D.length + 1)) (lv' := [(2, .int (nI (D.length + 1))), (4, .int (nI 1)), (0, .ref mo), (1, .int (nI a)), (3, .int (nI y))]) hx hb dM_table_56 hl (k := 3) rfl (nI_1 D.length) (by decide) rfl (fun ls hl => ?_)
              refine lv_iload_n hx hb dM_table_59 rfl (lv_at hl 4 rfl) ?_
              refine lv_iload hx hb dM_table_60 (lv_at hl 1 rfl) ?_
              refine lv_iadd hx hb dM_table_62 ?_
              refine pw_ti (y := nI (y + 1)) (nI_add _ _) ?_
              refine lv_istore_n (lv' := [(3, .int (nI (y + 1))), (2, .int (nI (D.length + 1))), (4, .int (nI 1)), (0, .ref mo), (1, .int (nI a))]) hx hb dM_table_63 rfl hl (by decide) rfl (fun ls hl => ?_)
              refine lv_goto (tgt := 4) hx hb dM_table_64 (by decide) ?_
              have hlen : D.length + 1 = (D ++ [(y, 0)]).length := by rw [List.length_append]; rfl
              rw [hlen] at hl
              exact ih (y + 1) (D ++ [(y, 0)]) f2 H7 lc7 lw3 hg4 (upd fS D.length (nI y)) (upd fE D.length (nI 1)) (by omega) (by omega) (by rw [← hlen]; omega) (by omega) (by rw [hT, List.append_assoc]; rfl) (rowsOf_s hrows y 0) hob hal hab hsl hel hz hk hL ls (lv_sub hl [3, 4, 1, 0] rfl)
            · have hm1 : y % 4 = 0 := (nI_eq (by omega) (by decide)).mp (e1.trans nI_0.symm)
              refine lv_aload_n hx hb dM_table_21 rfl (lv_at hl 1 rfl) ?_
              refine lv_iload_n hx hb dM_table_22 rfl (lv_at hl 2 rfl) ?_
              refine lv_iload_n hx hb dM_table_23 rfl (lv_at hl 4 rfl) ?_
              refine lv_iload hx hb dM_table_24 (lv_at hl 0 rfl) ?_
              refine pw_call (F := mW mo sa ea) (va_runV (As := [.int (nI a), .int (nI y), .int (nI 4)]) (rest := []) ⟨hx, hb, hml, hown, htA⟩ (m_uniform l G cA mo ao af sa ea n fo th lw hg a y 4 ha (by decide) (by omega)) (cwV 3 htA (gd_V wd547 wd549 wd23 wd28 wd550) rfl rfl rfl (by decide +kernel) (by rw [hR]; exact ⟨Nat.le_of_ble_eq_true rfl, Nat.le_of_ble_eq_true rfl⟩)) (pw_V (ci := 4) (q := (RM, TM, 8)) hKN hob rfl ⟨hA.1, hob, hal⟩) rfl rfl hl.1 rfl (lv_room (Nat.le_of_ble_eq_true rfl)) dM_table_26 (by rw [hR]; exact ⟨Nat.le_of_ble_eq_true rfl, Nat.le_of_ble_eq_true rfl⟩)) hL (fun q h => Or.inl h) (fun v9 st9 t9 lc2 h0 ha9 hL hq9 => ?_)
              obtain ⟨hv9, ⟨lw3, hg4, hob⟩, hz1, hk1⟩ := hq9
              cases hv9
              rw [h0] at hz1 hk1
              generalize t9.heap = H1 at hob hz1 hk1 ⊢
              have hal := al_k hal (hk1 ao hA.1)
              have hab := ai_k hab (hk1 af hA.2.1)
              have hsl := ai_k hsl (hk1 sa hA.2.2.1)
              have hel := ai_k hel (hk1 ea hA.2.2.2.1)
              have hk : ∀ q, q ≠ mo → q ≠ sa → q ≠ ea → H1[q]? = s.heap[q]? := fun q h1 h2 h3 => (hk1 q h1).trans (hk q h1 h2 h3)
              have hz := hz1.trans hz
              have h63 := uni_63 (fun k => fo (64 * a + k)) y 4
              refine pw_ti (y := bI (uni 64 (fun k => fo (64 * a + k)) y 4)) (by rw [h63]) ?_
              refine lv_if_ne (tgt := 41) hx hb dM_table_29 (by decide) (fun u1 => ?_) (fun u1 => ?_)
              · have hu := bI_ne.mp u1
                have hgz : gz (uni 64 (fun k => fo (64 * a + k))) y = 1 := (by unfold gz; rw [if_neg n3, if_neg n2, if_pos ⟨hm1, hu⟩])
                obtain ⟨f2, rfl⟩ : ∃ f2, fl = f2 + 1 := ⟨fl - 1, by omega⟩
                rw [grd_s hlt, hgz] at hT
                refine lv_aload_n hx hb dM_table_41 rfl (lv_at hl 1 rfl) ?_
                refine va_get (D := G) (ci := 4) (v := .ref sa) (C := RM) (T := TM) (N := 8) hx hb htA inM hown hK (ob_P hob) 0 rfl rfl 6 (by decide) (htA _ wd441) (fun _ h9 => h9) rfl dM_table_42 ?_
                refine lv_iload_n hx hb dM_table_45 rfl (lv_at hl 3 rfl) ?_
                refine lv_iload_n hx hb dM_table_46 rfl (lv_at hl 4 rfl) ?_
                refine pw_iast (F := mW mo sa ea) hx hb hK hsl 1 rfl (show D.length < 64 by omega) (by decide) hL (Or.inr (Or.inl rfl)) dM_table_47 (fun H6 lc6 hsl hz1 hk1 hL => ?_)
                have hob := ob_k hob (hk1 mo (Ne.symm hA.2.2.1))
                have hal := al_k hal (hk1 ao hA.2.2.2.2.1)
                have hab := ai_k hab (hk1 af hA.2.2.2.2.2.2.1)
                have hel := ai_k hel (hk1 ea (Ne.symm hA.2.2.2.2.2.2.2.2.1))
                have hk : ∀ q, q ≠ mo → q ≠ sa → q ≠ ea → H6[q]? = s.heap[q]? := fun q h1 h2 h3 => (hk1 q h2).trans (hk q h1 h2 h3)
                have hz := hz1.trans hz
                refine lv_aload_n hx hb dM_table_48 rfl (lv_at hl 1 rfl) ?_
                refine va_get (D := G) (ci := 4) (v := .ref ea) (C := RM) (T := TM) (N := 8) hx hb htA inM hown hK (ob_P hob) 0 rfl rfl 7 (by decide) (htA _ wd442) (fun _ h9 => h9) rfl dM_table_49 ?_
                refine lv_iload_n hx hb dM_table_52 rfl (lv_at hl 3 rfl) ?_
                refine lv_iload hx hb dM_table_53 (lv_at hl 0 rfl) ?_
                refine pw_iast (F := mW mo sa ea) hx hb hK hel 1 rfl (show D.length < 64 by omega) (by decide) hL (Or.inr (Or.inr rfl)) dM_table_55 (fun H7 lc7 hel hz1 hk1 hL => ?_)
                have hob := ob_k hob (hk1 mo (Ne.symm hA.2.2.2.1))
                have hal := al_k hal (hk1 ao hA.2.2.2.2.2.1)
                have hab := ai_k hab (hk1 af hA.2.2.2.2.2.2.2.1)
                have hsl := ai_k hsl (hk1 sa hA.2.2.2.2.2.2.2.2.1)
                have hk : ∀ q, q ≠ mo → q ≠ sa → q ≠ ea → H7[q]? = s.heap[q]? := fun q h1 h2 h3 => (hk1 q h3).trans (hk q h1 h2 h3)
                have hz := hz1.trans hz
                refine lv_iinc (v := nI (D.length + 1)) (lv' := [(2, .int (nI (D.length + 1))), (4, .int (nI 4)), (0, .ref mo), (1, .int (nI a)), (3, .int (nI y))]) hx hb dM_table_56 hl (k := 3) rfl (nI_1 D.length) (by decide) rfl (fun ls hl => ?_)
                refine lv_iload_n hx hb dM_table_59 rfl (lv_at hl 4 rfl) ?_
                refine lv_iload hx hb dM_table_60 (lv_at hl 1 rfl) ?_
                refine lv_iadd hx hb dM_table_62 ?_
                refine pw_ti (y := nI (y + 4)) (nI_add _ _) ?_
                refine lv_istore_n (lv' := [(3, .int (nI (y + 4))), (2, .int (nI (D.length + 1))), (4, .int (nI 4)), (0, .ref mo), (1, .int (nI a))]) hx hb dM_table_63 rfl hl (by decide) rfl (fun ls hl => ?_)
                refine lv_goto (tgt := 4) hx hb dM_table_64 (by decide) ?_
                have hlen : D.length + 1 = (D ++ [(y, 1)]).length := by rw [List.length_append]; rfl
                rw [hlen] at hl
                exact ih (y + 4) (D ++ [(y, 1)]) f2 H7 lc7 lw3 hg4 (upd fS D.length (nI y)) (upd fE D.length (nI 4)) (by omega) (by omega) (by rw [← hlen]; omega) (by omega) (by rw [hT, List.append_assoc]; rfl) (rowsOf_s hrows y 1) hob hal hab hsl hel hz hk hL ls (lv_sub hl [3, 4, 1, 0] rfl)
              · have hu := bI_eq.mp u1
                have n1 : ¬ (y % 4 = 0 ∧ (uni 64 (fun k => fo (64 * a + k))) y 4 = true) := fun q9 => by rw [hu] at q9; exact absurd q9.2 (by decide)
                refine lv_iload hx hb dM_table_32 (lv_at hl 0 rfl) ?_
                refine lv_iconst (v := nI 4) hx hb dM_table_34 (by decide) ?_
                refine lv_idiv hx hb dM_table_35 (by decide) ?_
                refine pw_ti (y := nI 1) (by decide) ?_
                refine lv_istore (lv' := [(4, .int (nI 1)), (0, .ref mo), (1, .int (nI a)), (2, .int (nI D.length)), (3, .int (nI y))]) hx hb dM_table_36 hl (by decide) rfl (fun ls hl => ?_)
                refine lv_goto (tgt := 14) hx hb dM_table_38 (by decide) ?_
                refine lv_iload_n hx hb dM_table_14 rfl (lv_at hl 4 rfl) ?_
                refine lv_iload hx hb dM_table_15 (lv_at hl 0 rfl) ?_
                refine lv_irem hx hb dM_table_17 (by decide) ?_
                refine pw_ti (y := nI (y % 1)) (pk_rem (by omega) (by decide) (by decide)) ?_
                have hm0 : y % 1 = 0 := Nat.mod_one y
                rw [hm0]
                refine lv_if_ne (tgt := 32) hx hb dM_table_18 (by decide) (fun c9 => absurd rfl c9) (fun _ => ?_)
                refine lv_aload_n hx hb dM_table_21 rfl (lv_at hl 1 rfl) ?_
                refine lv_iload_n hx hb dM_table_22 rfl (lv_at hl 2 rfl) ?_
                refine lv_iload_n hx hb dM_table_23 rfl (lv_at hl 4 rfl) ?_
                refine lv_iload hx hb dM_table_24 (lv_at hl 0 rfl) ?_
                refine pw_call (F := mW mo sa ea) (va_runV (As := [.int (nI a), .int (nI y), .int (nI 1)]) (rest := []) ⟨hx, hb, hml, hown, htA⟩ (m_uniform l G cA mo ao af sa ea n fo th lw3 hg4 a y 1 ha (by decide) (by omega)) (cwV 3 htA (gd_V wd547 wd549 wd23 wd28 wd550) rfl rfl rfl (by decide +kernel) (by rw [hR]; exact ⟨Nat.le_of_ble_eq_true rfl, Nat.le_of_ble_eq_true rfl⟩)) (pw_V (ci := 4) (q := (RM, TM, 8)) hKN hob rfl ⟨hA.1, hob, hal⟩) rfl rfl hl.1 rfl (lv_room (Nat.le_of_ble_eq_true rfl)) dM_table_26 (by rw [hR]; exact ⟨Nat.le_of_ble_eq_true rfl, Nat.le_of_ble_eq_true rfl⟩)) hL (fun q h => Or.inl h) (fun v9 st9 t9 lc6 h0 ha9 hL hq9 => ?_)
                obtain ⟨hv9, ⟨lw7, hg8, hob⟩, hz1, hk1⟩ := hq9
                cases hv9
                rw [h0] at hz1 hk1
                generalize t9.heap = H5 at hob hz1 hk1 ⊢
                have hal := al_k hal (hk1 ao hA.1)
                have hab := ai_k hab (hk1 af hA.2.1)
                have hsl := ai_k hsl (hk1 sa hA.2.2.1)
                have hel := ai_k hel (hk1 ea hA.2.2.2.1)
                have hk : ∀ q, q ≠ mo → q ≠ sa → q ≠ ea → H5[q]? = s.heap[q]? := fun q h1 h2 h3 => (hk1 q h1).trans (hk q h1 h2 h3)
                have hz := hz1.trans hz
                have h63 := uni_63 (fun k => fo (64 * a + k)) y 1
                refine pw_ti (y := bI (uni 64 (fun k => fo (64 * a + k)) y 1)) (by rw [h63]) ?_
                rw [uni_1]
                refine lv_if_ne (tgt := 41) hx hb dM_table_29 (by decide) (fun _ => ?_) (fun c9 => absurd c9 (by decide))
                have hgz : gz (uni 64 (fun k => fo (64 * a + k))) y = 0 := (by unfold gz; rw [if_neg n3, if_neg n2, if_neg n1])
                obtain ⟨f2, rfl⟩ : ∃ f2, fl = f2 + 1 := ⟨fl - 1, by omega⟩
                rw [grd_s hlt, hgz] at hT
                refine lv_aload_n hx hb dM_table_41 rfl (lv_at hl 1 rfl) ?_
                refine va_get (D := G) (ci := 4) (v := .ref sa) (C := RM) (T := TM) (N := 8) hx hb htA inM hown hK (ob_P hob) 0 rfl rfl 6 (by decide) (htA _ wd441) (fun _ h9 => h9) rfl dM_table_42 ?_
                refine lv_iload_n hx hb dM_table_45 rfl (lv_at hl 3 rfl) ?_
                refine lv_iload_n hx hb dM_table_46 rfl (lv_at hl 4 rfl) ?_
                refine pw_iast (F := mW mo sa ea) hx hb hK hsl 1 rfl (show D.length < 64 by omega) (by decide) hL (Or.inr (Or.inl rfl)) dM_table_47 (fun H6 lc6 hsl hz1 hk1 hL => ?_)
                have hob := ob_k hob (hk1 mo (Ne.symm hA.2.2.1))
                have hal := al_k hal (hk1 ao hA.2.2.2.2.1)
                have hab := ai_k hab (hk1 af hA.2.2.2.2.2.2.1)
                have hel := ai_k hel (hk1 ea (Ne.symm hA.2.2.2.2.2.2.2.2.1))
                have hk : ∀ q, q ≠ mo → q ≠ sa → q ≠ ea → H6[q]? = s.heap[q]? := fun q h1 h2 h3 => (hk1 q h2).trans (hk q h1 h2 h3)
                have hz := hz1.trans hz
                refine lv_aload_n hx hb dM_table_48 rfl (lv_at hl 1 rfl) ?_
                refine va_get (D := G) (ci := 4) (v := .ref ea) (C := RM) (T := TM) (N := 8) hx hb htA inM hown hK (ob_P hob) 0 rfl rfl 7 (by decide) (htA _ wd442) (fun _ h9 => h9) rfl dM_table_49 ?_
                refine lv_iload_n hx hb dM_table_52 rfl (lv_at hl 3 rfl) ?_
                refine lv_iload hx hb dM_table_53 (lv_at hl 0 rfl) ?_
                refine pw_iast (F := mW mo sa ea) hx hb hK hel 1 rfl (show D.length < 64 by omega) (by decide) hL (Or.inr (Or.inr rfl)) dM_table_55 (fun H7 lc7 hel hz1 hk1 hL => ?_)
                have hob := ob_k hob (hk1 mo (Ne.symm hA.2.2.2.1))
                have hal := al_k hal (hk1 ao hA.2.2.2.2.2.1)
                have hab := ai_k hab (hk1 af hA.2.2.2.2.2.2.2.1)
                have hsl := ai_k hsl (hk1 sa hA.2.2.2.2.2.2.2.2.1)
                have hk : ∀ q, q ≠ mo → q ≠ sa → q ≠ ea → H7[q]? = s.heap[q]? := fun q h1 h2 h3 => (hk1 q h3).trans (hk q h1 h2 h3)
                have hz := hz1.trans hz
                refine lv_iinc (v := nI (D.length + 1)) (lv' := [(2, .int (nI (D.length + 1))), (4, .int (nI 1)), (0, .ref mo), (1, .int (nI a)), (3, .int (nI y))]) hx hb dM_table_56 hl (k := 3) rfl (nI_1 D.length) (by decide) rfl (fun ls hl => ?_)
                refine lv_iload_n hx hb dM_table_59 rfl (lv_at hl 4 rfl) ?_
                refine lv_iload hx hb dM_table_60 (lv_at hl 1 rfl) ?_
                refine lv_iadd hx hb dM_table_62 ?_
                refine pw_ti (y := nI (y + 1)) (nI_add _ _) ?_
                refine lv_istore_n (lv' := [(3, .int (nI (y + 1))), (2, .int (nI (D.length + 1))), (4, .int (nI 1)), (0, .ref mo), (1, .int (nI a))]) hx hb dM_table_63 rfl hl (by decide) rfl (fun ls hl => ?_)
                refine lv_goto (tgt := 4) hx hb dM_table_64 (by decide) ?_
                have hlen : D.length + 1 = (D ++ [(y, 0)]).length := by rw [List.length_append]; rfl
                rw [hlen] at hl
                exact ih (y + 1) (D ++ [(y, 0)]) f2 H7 lc7 lw7 hg8 (upd fS D.length (nI y)) (upd fE D.length (nI 1)) (by omega) (by omega) (by rw [← hlen]; omega) (by omega) (by rw [hT, List.append_assoc]; rfl) (rowsOf_s hrows y 0) hob hal hab hsl hel hz hk hL ls (lv_sub hl [3, 4, 1, 0] rfl)
          · have hm2 : y % 16 = 0 := (nI_eq (by omega) (by decide)).mp (e2.trans nI_0.symm)
            refine lv_aload_n hx hb dM_table_21 rfl (lv_at hl 1 rfl) ?_
            refine lv_iload_n hx hb dM_table_22 rfl (lv_at hl 2 rfl) ?_
            refine lv_iload_n hx hb dM_table_23 rfl (lv_at hl 4 rfl) ?_
            refine lv_iload hx hb dM_table_24 (lv_at hl 0 rfl) ?_
            refine pw_call (F := mW mo sa ea) (va_runV (As := [.int (nI a), .int (nI y), .int (nI 16)]) (rest := []) ⟨hx, hb, hml, hown, htA⟩ (m_uniform l G cA mo ao af sa ea n fo th lw hg a y 16 ha (by decide) (by omega)) (cwV 3 htA (gd_V wd547 wd549 wd23 wd28 wd550) rfl rfl rfl (by decide +kernel) (by rw [hR]; exact ⟨Nat.le_of_ble_eq_true rfl, Nat.le_of_ble_eq_true rfl⟩)) (pw_V (ci := 4) (q := (RM, TM, 8)) hKN hob rfl ⟨hA.1, hob, hal⟩) rfl rfl hl.1 rfl (lv_room (Nat.le_of_ble_eq_true rfl)) dM_table_26 (by rw [hR]; exact ⟨Nat.le_of_ble_eq_true rfl, Nat.le_of_ble_eq_true rfl⟩)) hL (fun q h => Or.inl h) (fun v9 st9 t9 lc2 h0 ha9 hL hq9 => ?_)
            obtain ⟨hv9, ⟨lw3, hg4, hob⟩, hz1, hk1⟩ := hq9
            cases hv9
            rw [h0] at hz1 hk1
            generalize t9.heap = H1 at hob hz1 hk1 ⊢
            have hal := al_k hal (hk1 ao hA.1)
            have hab := ai_k hab (hk1 af hA.2.1)
            have hsl := ai_k hsl (hk1 sa hA.2.2.1)
            have hel := ai_k hel (hk1 ea hA.2.2.2.1)
            have hk : ∀ q, q ≠ mo → q ≠ sa → q ≠ ea → H1[q]? = s.heap[q]? := fun q h1 h2 h3 => (hk1 q h1).trans (hk q h1 h2 h3)
            have hz := hz1.trans hz
            have h63 := uni_63 (fun k => fo (64 * a + k)) y 16
            refine pw_ti (y := bI (uni 64 (fun k => fo (64 * a + k)) y 16)) (by rw [h63]) ?_
            refine lv_if_ne (tgt := 41) hx hb dM_table_29 (by decide) (fun u2 => ?_) (fun u2 => ?_)
            · have hu := bI_ne.mp u2
              have hgz : gz (uni 64 (fun k => fo (64 * a + k))) y = 2 := (by unfold gz; rw [if_neg n3, if_pos ⟨hm2, hu⟩])
              obtain ⟨f2, rfl⟩ : ∃ f2, fl = f2 + 1 := ⟨fl - 1, by omega⟩
              rw [grd_s hlt, hgz] at hT
              refine lv_aload_n hx hb dM_table_41 rfl (lv_at hl 1 rfl) ?_
              refine va_get (D := G) (ci := 4) (v := .ref sa) (C := RM) (T := TM) (N := 8) hx hb htA inM hown hK (ob_P hob) 0 rfl rfl 6 (by decide) (htA _ wd441) (fun _ h9 => h9) rfl dM_table_42 ?_
              refine lv_iload_n hx hb dM_table_45 rfl (lv_at hl 3 rfl) ?_
              refine lv_iload_n hx hb dM_table_46 rfl (lv_at hl 4 rfl) ?_
              refine pw_iast (F := mW mo sa ea) hx hb hK hsl 1 rfl (show D.length < 64 by omega) (by decide) hL (Or.inr (Or.inl rfl)) dM_table_47 (fun H6 lc6 hsl hz1 hk1 hL => ?_)
              have hob := ob_k hob (hk1 mo (Ne.symm hA.2.2.1))
              have hal := al_k hal (hk1 ao hA.2.2.2.2.1)
              have hab := ai_k hab (hk1 af hA.2.2.2.2.2.2.1)
              have hel := ai_k hel (hk1 ea (Ne.symm hA.2.2.2.2.2.2.2.2.1))
              have hk : ∀ q, q ≠ mo → q ≠ sa → q ≠ ea → H6[q]? = s.heap[q]? := fun q h1 h2 h3 => (hk1 q h2).trans (hk q h1 h2 h3)
              have hz := hz1.trans hz
              refine lv_aload_n hx hb dM_table_48 rfl (lv_at hl 1 rfl) ?_
              refine va_get (D := G) (ci := 4) (v := .ref ea) (C := RM) (T := TM) (N := 8) hx hb htA inM hown hK (ob_P hob) 0 rfl rfl 7 (by decide) (htA _ wd442) (fun _ h9 => h9) rfl dM_table_49 ?_
              refine lv_iload_n hx hb dM_table_52 rfl (lv_at hl 3 rfl) ?_
              refine lv_iload hx hb dM_table_53 (lv_at hl 0 rfl) ?_
              refine pw_iast (F := mW mo sa ea) hx hb hK hel 1 rfl (show D.length < 64 by omega) (by decide) hL (Or.inr (Or.inr rfl)) dM_table_55 (fun H7 lc7 hel hz1 hk1 hL => ?_)
              have hob := ob_k hob (hk1 mo (Ne.symm hA.2.2.2.1))
              have hal := al_k hal (hk1 ao hA.2.2.2.2.2.1)
              have hab := ai_k hab (hk1 af hA.2.2.2.2.2.2.2.1)
              have hsl := ai_k hsl (hk1 sa hA.2.2.2.2.2.2.2.2.1)
              have hk : ∀ q, q ≠ mo → q ≠ sa → q ≠ ea → H7[q]? = s.heap[q]? := fun q h1 h2 h3 => (hk1 q h3).trans (hk q h1 h2 h3)
              have hz := hz1.trans hz
              refine lv_iinc (v := nI (D.length + 1)) (lv' := [(2, .int (nI (D.length + 1))), (4, .int (nI 16)), (0, .ref mo), (1, .int (nI a)), (3, .int (nI y))]) hx hb dM_table_56 hl (k := 3) rfl (nI_1 D.length) (by decide) rfl (fun ls hl => ?_)
              refine lv_iload_n hx hb dM_table_59 rfl (lv_at hl 4 rfl) ?_
              refine lv_iload hx hb dM_table_60 (lv_at hl 1 rfl) ?_
              refine lv_iadd hx hb dM_table_62 ?_
              refine pw_ti (y := nI (y + 16)) (nI_add _ _) ?_
              refine lv_istore_n (lv' := [(3, .int (nI (y + 16))), (2, .int (nI (D.length + 1))), (4, .int (nI 16)), (0, .ref mo), (1, .int (nI a))]) hx hb dM_table_63 rfl hl (by decide) rfl (fun ls hl => ?_)
              refine lv_goto (tgt := 4) hx hb dM_table_64 (by decide) ?_
              have hlen : D.length + 1 = (D ++ [(y, 2)]).length := by rw [List.length_append]; rfl
              rw [hlen] at hl
              exact ih (y + 16) (D ++ [(y, 2)]) f2 H7 lc7 lw3 hg4 (upd fS D.length (nI y)) (upd fE D.length (nI 16)) (by omega) (by omega) (by rw [← hlen]; omega) (by omega) (by rw [hT, List.append_assoc]; rfl) (rowsOf_s hrows y 2) hob hal hab hsl hel hz hk hL ls (lv_sub hl [3, 4, 1, 0] rfl)
            · have hu := bI_eq.mp u2
              have n2 : ¬ (y % 16 = 0 ∧ (uni 64 (fun k => fo (64 * a + k))) y 16 = true) := fun q9 => by rw [hu] at q9; exact absurd q9.2 (by decide)
              refine lv_iload hx hb dM_table_32 (lv_at hl 0 rfl) ?_
              refine lv_iconst (v := nI 4) hx hb dM_table_34 (by decide) ?_
              refine lv_idiv hx hb dM_table_35 (by decide) ?_
              refine pw_ti (y := nI 4) (by decide) ?_
              refine lv_istore (lv' := [(4, .int (nI 4)), (0, .ref mo), (1, .int (nI a)), (2, .int (nI D.length)), (3, .int (nI y))]) hx hb dM_table_36 hl (by decide) rfl (fun ls hl => ?_)
              refine lv_goto (tgt := 14) hx hb dM_table_38 (by decide) ?_
              refine lv_iload_n hx hb dM_table_14 rfl (lv_at hl 4 rfl) ?_
              refine lv_iload hx hb dM_table_15 (lv_at hl 0 rfl) ?_
              refine lv_irem hx hb dM_table_17 (by decide) ?_
              refine pw_ti (y := nI (y % 4)) (pk_rem (by omega) (by decide) (by decide)) ?_
              refine lv_if_ne (tgt := 32) hx hb dM_table_18 (by decide) (fun e1 => ?_) (fun e1 => ?_)
              · have n1 : ¬ (y % 4 = 0 ∧ (uni 64 (fun k => fo (64 * a + k))) y 4 = true) := fun q9 => e1 (by rw [q9.1]; rfl)
                refine lv_iload hx hb dM_table_32 (lv_at hl 0 rfl) ?_
                refine lv_iconst (v := nI 4) hx hb dM_table_34 (by decide) ?_
                refine lv_idiv hx hb dM_table_35 (by decide) ?_
                refine pw_ti (y := nI 1) (by decide) ?_
                refine lv_istore (lv' := [(4, .int (nI 1)), (0, .ref mo), (1, .int (nI a)), (2, .int (nI D.length)), (3, .int (nI y))]) hx hb dM_table_36 hl (by decide) rfl (fun ls hl => ?_)
                refine lv_goto (tgt := 14) hx hb dM_table_38 (by decide) ?_
                refine lv_iload_n hx hb dM_table_14 rfl (lv_at hl 4 rfl) ?_
                refine lv_iload hx hb dM_table_15 (lv_at hl 0 rfl) ?_
                refine lv_irem hx hb dM_table_17 (by decide) ?_
                refine pw_ti (y := nI (y % 1)) (pk_rem (by omega) (by decide) (by decide)) ?_
                have hm0 : y % 1 = 0 := Nat.mod_one y
                rw [hm0]
                refine lv_if_ne (tgt := 32) hx hb dM_table_18 (by decide) (fun c9 => absurd rfl c9) (fun _ => ?_)
                refine lv_aload_n hx hb dM_table_21 rfl (lv_at hl 1 rfl) ?_
                refine lv_iload_n hx hb dM_table_22 rfl (lv_at hl 2 rfl) ?_
                refine lv_iload_n hx hb dM_table_23 rfl (lv_at hl 4 rfl) ?_
                refine lv_iload hx hb dM_table_24 (lv_at hl 0 rfl) ?_
                refine pw_call (F := mW mo sa ea) (va_runV (As := [.int (nI a), .int (nI y), .int (nI 1)]) (rest := []) ⟨hx, hb, hml, hown, htA⟩ (m_uniform l G cA mo ao af sa ea n fo th lw3 hg4 a y 1 ha (by decide) (by omega)) (cwV 3 htA (gd_V wd547 wd549 wd23 wd28 wd550) rfl rfl rfl (by decide +kernel) (by rw [hR]; exact ⟨Nat.le_of_ble_eq_true rfl, Nat.le_of_ble_eq_true rfl⟩)) (pw_V (ci := 4) (q := (RM, TM, 8)) hKN hob rfl ⟨hA.1, hob, hal⟩) rfl rfl hl.1 rfl (lv_room (Nat.le_of_ble_eq_true rfl)) dM_table_26 (by rw [hR]; exact ⟨Nat.le_of_ble_eq_true rfl, Nat.le_of_ble_eq_true rfl⟩)) hL (fun q h => Or.inl h) (fun v9 st9 t9 lc6 h0 ha9 hL hq9 => ?_)
                obtain ⟨hv9, ⟨lw7, hg8, hob⟩, hz1, hk1⟩ := hq9
                cases hv9
                rw [h0] at hz1 hk1
                generalize t9.heap = H5 at hob hz1 hk1 ⊢
                have hal := al_k hal (hk1 ao hA.1)
                have hab := ai_k hab (hk1 af hA.2.1)
                have hsl := ai_k hsl (hk1 sa hA.2.2.1)
                have hel := ai_k hel (hk1 ea hA.2.2.2.1)
                have hk : ∀ q, q ≠ mo → q ≠ sa → q ≠ ea → H5[q]? = s.heap[q]? := fun q h1 h2 h3 => (hk1 q h1).trans (hk q h1 h2 h3)
                have hz := hz1.trans hz
                have h63 := uni_63 (fun k => fo (64 * a + k)) y 1
                refine pw_ti (y := bI (uni 64 (fun k => fo (64 * a + k)) y 1)) (by rw [h63]) ?_
                rw [uni_1]
                refine lv_if_ne (tgt := 41) hx hb dM_table_29 (by decide) (fun _ => ?_) (fun c9 => absurd c9 (by decide))
                have hgz : gz (uni 64 (fun k => fo (64 * a + k))) y = 0 := (by unfold gz; rw [if_neg n3, if_neg n2, if_neg n1])
                obtain ⟨f2, rfl⟩ : ∃ f2, fl = f2 + 1 := ⟨fl - 1, by omega⟩
                rw [grd_s hlt, hgz] at hT
                refine lv_aload_n hx hb dM_table_41 rfl (lv_at hl 1 rfl) ?_
                refine va_get (D := G) (ci := 4) (v := .ref sa) (C := RM) (T := TM) (N := 8) hx hb htA inM hown hK (ob_P hob) 0 rfl rfl 6 (by decide) (htA _ wd441) (fun _ h9 => h9) rfl dM_table_42 ?_
                refine lv_iload_n hx hb dM_table_45 rfl (lv_at hl 3 rfl) ?_
                refine lv_iload_n hx hb dM_table_46 rfl (lv_at hl 4 rfl) ?_
                refine pw_iast (F := mW mo sa ea) hx hb hK hsl 1 rfl (show D.length < 64 by omega) (by decide) hL (Or.inr (Or.inl rfl)) dM_table_47 (fun H6 lc6 hsl hz1 hk1 hL => ?_)
                have hob := ob_k hob (hk1 mo (Ne.symm hA.2.2.1))
                have hal := al_k hal (hk1 ao hA.2.2.2.2.1)
                have hab := ai_k hab (hk1 af hA.2.2.2.2.2.2.1)
                have hel := ai_k hel (hk1 ea (Ne.symm hA.2.2.2.2.2.2.2.2.1))
                have hk : ∀ q, q ≠ mo → q ≠ sa → q ≠ ea → H6[q]? = s.heap[q]? := fun q h1 h2 h3 => (hk1 q h2).trans (hk q h1 h2 h3)
                have hz := hz1.trans hz
                refine lv_aload_n hx hb dM_table_48 rfl (lv_at hl 1 rfl) ?_
                refine va_get (D := G) (ci := 4) (v := .ref ea) (C := RM) (T := TM) (N := 8) hx hb htA inM hown hK (ob_P hob) 0 rfl rfl 7 (by decide) (htA _ wd442) (fun _ h9 => h9) rfl dM_table_49 ?_
                refine lv_iload_n hx hb dM_table_52 rfl (lv_at hl 3 rfl) ?_
                refine lv_iload hx hb dM_table_53 (lv_at hl 0 rfl) ?_
                refine pw_iast (F := mW mo sa ea) hx hb hK hel 1 rfl (show D.length < 64 by omega) (by decide) hL (Or.inr (Or.inr rfl)) dM_table_55 (fun H7 lc7 hel hz1 hk1 hL => ?_)
                have hob := ob_k hob (hk1 mo (Ne.symm hA.2.2.2.1))
                have hal := al_k hal (hk1 ao hA.2.2.2.2.2.1)
                have hab := ai_k hab (hk1 af hA.2.2.2.2.2.2.2.1)
                have hsl := ai_k hsl (hk1 sa hA.2.2.2.2.2.2.2.2.1)
                have hk : ∀ q, q ≠ mo → q ≠ sa → q ≠ ea → H7[q]? = s.heap[q]? := fun q h1 h2 h3 => (hk1 q h3).trans (hk q h1 h2 h3)
                have hz := hz1.trans hz
                refine lv_iinc (v := nI (D.length + 1)) (lv' := [(2, .int (nI (D.length + 1))), (4, .int (nI 1)), (0, .ref mo), (1, .int (nI a)), (3, .int (nI y))]) hx hb dM_table_56 hl (k := 3) rfl (nI_1 D.length) (by decide) rfl (fun ls hl => ?_)
                refine lv_iload_n hx hb dM_table_59 rfl (lv_at hl 4 rfl) ?_
                refine lv_iload hx hb dM_table_60 (lv_at hl 1 rfl) ?_
                refine lv_iadd hx hb dM_table_62 ?_
                refine pw_ti (y := nI (y + 1)) (nI_add _ _) ?_
                refine lv_istore_n (lv' := [(3, .int (nI (y + 1))), (2, .int (nI (D.length + 1))), (4, .int (nI 1)), (0, .ref mo), (1, .int (nI a))]) hx hb dM_table_63 rfl hl (by decide) rfl (fun ls hl => ?_)
                refine lv_goto (tgt := 4) hx hb dM_table_64 (by decide) ?_
                have hlen : D.length + 1 = (D ++ [(y, 0)]).length := by rw [List.length_append]; rfl
                rw [hlen] at hl
                exact ih (y + 1) (D ++ [(y, 0)]) f2 H7 lc7 lw7 hg8 (upd fS D.length (nI y)) (upd fE D.length (nI 1)) (by omega) (by omega) (by rw [← hlen]; omega) (by omega) (by rw [hT, List.append_assoc]; rfl) (rowsOf_s hrows y 0) hob hal hab hsl hel hz hk hL ls (lv_sub hl [3, 4, 1, 0] rfl)
              · have hm1 : y % 4 = 0 := (nI_eq (by omega) (by decide)).mp (e1.trans nI_0.symm)
                refine lv_aload_n hx hb dM_table_21 rfl (lv_at hl 1 rfl) ?_
                refine lv_iload_n hx hb dM_table_22 rfl (lv_at hl 2 rfl) ?_
                refine lv_iload_n hx hb dM_table_23 rfl (lv_at hl 4 rfl) ?_
                refine lv_iload hx hb dM_table_24 (lv_at hl 0 rfl) ?_
                refine pw_call (F := mW mo sa ea) (va_runV (As := [.int (nI a), .int (nI y), .int (nI 4)]) (rest := []) ⟨hx, hb, hml, hown, htA⟩ (m_uniform l G cA mo ao af sa ea n fo th lw3 hg4 a y 4 ha (by decide) (by omega)) (cwV 3 htA (gd_V wd547 wd549 wd23 wd28 wd550) rfl rfl rfl (by decide +kernel) (by rw [hR]; exact ⟨Nat.le_of_ble_eq_true rfl, Nat.le_of_ble_eq_true rfl⟩)) (pw_V (ci := 4) (q := (RM, TM, 8)) hKN hob rfl ⟨hA.1, hob, hal⟩) rfl rfl hl.1 rfl (lv_room (Nat.le_of_ble_eq_true rfl)) dM_table_26 (by rw [hR]; exact ⟨Nat.le_of_ble_eq_true rfl, Nat.le_of_ble_eq_true rfl⟩)) hL (fun q h => Or.inl h) (fun v9 st9 t9 lc6 h0 ha9 hL hq9 => ?_)
                obtain ⟨hv9, ⟨lw7, hg8, hob⟩, hz1, hk1⟩ := hq9
                cases hv9
                rw [h0] at hz1 hk1
                generalize t9.heap = H5 at hob hz1 hk1 ⊢
                have hal := al_k hal (hk1 ao hA.1)
                have hab := ai_k hab (hk1 af hA.2.1)
                have hsl := ai_k hsl (hk1 sa hA.2.2.1)
                have hel := ai_k hel (hk1 ea hA.2.2.2.1)
                have hk : ∀ q, q ≠ mo → q ≠ sa → q ≠ ea → H5[q]? = s.heap[q]? := fun q h1 h2 h3 => (hk1 q h1).trans (hk q h1 h2 h3)
                have hz := hz1.trans hz
                have h63 := uni_63 (fun k => fo (64 * a + k)) y 4
                refine pw_ti (y := bI (uni 64 (fun k => fo (64 * a + k)) y 4)) (by rw [h63]) ?_
                refine lv_if_ne (tgt := 41) hx hb dM_table_29 (by decide) (fun u1 => ?_) (fun u1 => ?_)
                · have hu := bI_ne.mp u1
                  have hgz : gz (uni 64 (fun k => fo (64 * a + k))) y = 1 := (by unfold gz; rw [if_neg n3, if_neg n2, if_pos ⟨hm1, hu⟩])
                  obtain ⟨f2, rfl⟩ : ∃ f2, fl = f2 + 1 := ⟨fl - 1, by omega⟩
                  rw [grd_s hlt, hgz] at hT
                  refine lv_aload_n hx hb dM_table_41 rfl (lv_at hl 1 rfl) ?_
                  refine va_get (D := G) (ci := 4) (v := .ref sa) (C := RM) (T := TM) (N := 8) hx hb htA inM hown hK (ob_P hob) 0 rfl rfl 6 (by decide) (htA _ wd441) (fun _ h9 => h9) rfl dM_table_42 ?_
                  refine lv_iload_n hx hb dM_table_45 rfl (lv_at hl 3 rfl) ?_
                  refine lv_iload_n hx hb dM_table_46 rfl (lv_at hl 4 rfl) ?_
                  refine pw_iast (F := mW mo sa ea) hx hb hK hsl 1 rfl (show D.length < 64 by omega) (by decide) hL (Or.inr (Or.inl rfl)) dM_table_47 (fun H6 lc6 hsl hz1 hk1 hL => ?_)
                  have hob := ob_k hob (hk1 mo (Ne.symm hA.2.2.1))
                  have hal := al_k hal (hk1 ao hA.2.2.2.2.1)
                  have hab := ai_k hab (hk1 af hA.2.2.2.2.2.2.1)
                  have hel := ai_k hel (hk1 ea (Ne.symm hA.2.2.2.2.2.2.2.2.1))
                  have hk : ∀ q, q ≠ mo → q ≠ sa → q ≠ ea → H6[q]? = s.heap[q]? := fun q h1 h2 h3 => (hk1 q h2).trans (hk q h1 h2 h3)
                  have hz := hz1.trans hz
                  refine lv_aload_n hx hb dM_table_48 rfl (lv_at hl 1 rfl) ?_
                  refine va_get (D := G) (ci := 4) (v := .ref ea) (C := RM) (T := TM) (N := 8) hx hb htA inM hown hK (ob_P hob) 0 rfl rfl 7 (by decide) (htA _ wd442) (fun _ h9 => h9) rfl dM_table_49 ?_
                  refine lv_iload_n hx hb dM_table_52 rfl (lv_at hl 3 rfl) ?_
                  refine lv_iload hx hb dM_table_53 (lv_at hl 0 rfl) ?_
                  refine pw_iast (F := mW mo sa ea) hx hb hK hel 1 rfl (show D.length < 64 by omega) (by decide) hL (Or.inr (Or.inr rfl)) dM_table_55 (fun H7 lc7 hel hz1 hk1 hL => ?_)
                  have hob := ob_k hob (hk1 mo (Ne.symm hA.2.2.2.1))
                  have hal := al_k hal (hk1 ao hA.2.2.2.2.2.1)
                  have hab := ai_k hab (hk1 af hA.2.2.2.2.2.2.2.1)
                  have hsl := ai_k hsl (hk1 sa hA.2.2.2.2.2.2.2.2.1)
                  have hk : ∀ q, q ≠ mo → q ≠ sa → q ≠ ea → H7[q]? = s.heap[q]? := fun q h1 h2 h3 => (hk1 q h3).trans (hk q h1 h2 h3)
                  have hz := hz1.trans hz
                  refine lv_iinc (v := nI (D.length + 1)) (lv' := [(2, .int (nI (D.length + 1))), (4, .int (nI 4)), (0, .ref mo), (1, .int (nI a)), (3, .int (nI y))]) hx hb dM_table_56 hl (k := 3) rfl (nI_1 D.length) (by decide) rfl (fun ls hl => ?_)
                  refine lv_iload_n hx hb dM_table_59 rfl (lv_at hl 4 rfl) ?_
                  refine lv_iload hx hb dM_table_60 (lv_at hl 1 rfl) ?_
                  refine lv_iadd hx hb dM_table_62 ?_
                  refine pw_ti (y := nI (y + 4)) (nI_add _ _) ?_
                  refine lv_istore_n (lv' := [(3, .int (nI (y + 4))), (2, .int (nI (D.length + 1))), (4, .int (nI 4)), (0, .ref mo), (1, .int (nI a))]) hx hb dM_table_63 rfl hl (by decide) rfl (fun ls hl => ?_)
                  refine lv_goto (tgt := 4) hx hb dM_table_64 (by decide) ?_
                  have hlen : D.length + 1 = (D ++ [(y, 1)]).length := by rw [List.length_append]; rfl
                  rw [hlen] at hl
                  exact ih (y + 4) (D ++ [(y, 1)]) f2 H7 lc7 lw7 hg8 (upd fS D.length (nI y)) (upd fE D.length (nI 4)) (by omega) (by omega) (by rw [← hlen]; omega) (by omega) (by rw [hT, List.append_assoc]; rfl) (rowsOf_s hrows y 1) hob hal hab hsl hel hz hk hL ls (lv_sub hl [3, 4, 1, 0] rfl)
                · have hu := bI_eq.mp u1
                  have n1 : ¬ (y % 4 = 0 ∧ (uni 64 (fun k => fo (64 * a + k))) y 4 = true) := fun q9 => by rw [hu] at q9; exact absurd q9.2 (by decide)
                  refine lv_iload hx hb dM_table_32 (lv_at hl 0 rfl) ?_
                  refine lv_iconst (v := nI 4) hx hb dM_table_34 (by decide) ?_
                  refine lv_idiv hx hb dM_table_35 (by decide) ?_
                  refine pw_ti (y := nI 1) (by decide) ?_
                  refine lv_istore (lv' := [(4, .int (nI 1)), (0, .ref mo), (1, .int (nI a)), (2, .int (nI D.length)), (3, .int (nI y))]) hx hb dM_table_36 hl (by decide) rfl (fun ls hl => ?_)
                  refine lv_goto (tgt := 14) hx hb dM_table_38 (by decide) ?_
                  refine lv_iload_n hx hb dM_table_14 rfl (lv_at hl 4 rfl) ?_
                  refine lv_iload hx hb dM_table_15 (lv_at hl 0 rfl) ?_
                  refine lv_irem hx hb dM_table_17 (by decide) ?_
                  refine pw_ti (y := nI (y % 1)) (pk_rem (by omega) (by decide) (by decide)) ?_
                  have hm0 : y % 1 = 0 := Nat.mod_one y
                  rw [hm0]
                  refine lv_if_ne (tgt := 32) hx hb dM_table_18 (by decide) (fun c9 => absurd rfl c9) (fun _ => ?_)
                  refine lv_aload_n hx hb dM_table_21 rfl (lv_at hl 1 rfl) ?_
                  refine lv_iload_n hx hb dM_table_22 rfl (lv_at hl 2 rfl) ?_
                  refine lv_iload_n hx hb dM_table_23 rfl (lv_at hl 4 rfl) ?_
                  refine lv_iload hx hb dM_table_24 (lv_at hl 0 rfl) ?_
                  refine pw_call (F := mW mo sa ea) (va_runV (As := [.int (nI a), .int (nI y), .int (nI 1)]) (rest := []) ⟨hx, hb, hml, hown, htA⟩ (m_uniform l G cA mo ao af sa ea n fo th lw7 hg8 a y 1 ha (by decide) (by omega)) (cwV 3 htA (gd_V wd547 wd549 wd23 wd28 wd550) rfl rfl rfl (by decide +kernel) (by rw [hR]; exact ⟨Nat.le_of_ble_eq_true rfl, Nat.le_of_ble_eq_true rfl⟩)) (pw_V (ci := 4) (q := (RM, TM, 8)) hKN hob rfl ⟨hA.1, hob, hal⟩) rfl rfl hl.1 rfl (lv_room (Nat.le_of_ble_eq_true rfl)) dM_table_26 (by rw [hR]; exact ⟨Nat.le_of_ble_eq_true rfl, Nat.le_of_ble_eq_true rfl⟩)) hL (fun q h => Or.inl h) (fun v9 st9 t9 lc10 h0 ha9 hL hq9 => ?_)
                  obtain ⟨hv9, ⟨lw11, hg12, hob⟩, hz1, hk1⟩ := hq9
                  cases hv9
                  rw [h0] at hz1 hk1
                  generalize t9.heap = H9 at hob hz1 hk1 ⊢
                  have hal := al_k hal (hk1 ao hA.1)
                  have hab := ai_k hab (hk1 af hA.2.1)
                  have hsl := ai_k hsl (hk1 sa hA.2.2.1)
                  have hel := ai_k hel (hk1 ea hA.2.2.2.1)
                  have hk : ∀ q, q ≠ mo → q ≠ sa → q ≠ ea → H9[q]? = s.heap[q]? := fun q h1 h2 h3 => (hk1 q h1).trans (hk q h1 h2 h3)
                  have hz := hz1.trans hz
                  have h63 := uni_63 (fun k => fo (64 * a + k)) y 1
                  refine pw_ti (y := bI (uni 64 (fun k => fo (64 * a + k)) y 1)) (by rw [h63]) ?_
                  rw [uni_1]
                  refine lv_if_ne (tgt := 41) hx hb dM_table_29 (by decide) (fun _ => ?_) (fun c9 => absurd c9 (by decide))
                  have hgz : gz (uni 64 (fun k => fo (64 * a + k))) y = 0 := (by unfold gz; rw [if_neg n3, if_neg n2, if_neg n1])
                  obtain ⟨f2, rfl⟩ : ∃ f2, fl = f2 + 1 := ⟨fl - 1, by omega⟩
                  rw [grd_s hlt, hgz] at hT
                  refine lv_aload_n hx hb dM_table_41 rfl (lv_at hl 1 rfl) ?_
                  refine va_get (D := G) (ci := 4) (v := .ref sa) (C := RM) (T := TM) (N := 8) hx hb htA inM hown hK (ob_P hob) 0 rfl rfl 6 (by decide) (htA _ wd441) (fun _ h9 => h9) rfl dM_table_42 ?_
                  refine lv_iload_n hx hb dM_table_45 rfl (lv_at hl 3 rfl) ?_
                  refine lv_iload_n hx hb dM_table_46 rfl (lv_at hl 4 rfl) ?_
                  refine pw_iast (F := mW mo sa ea) hx hb hK hsl 1 rfl (show D.length < 64 by omega) (by decide) hL (Or.inr (Or.inl rfl)) dM_table_47 (fun H6 lc6 hsl hz1 hk1 hL => ?_)
                  have hob := ob_k hob (hk1 mo (Ne.symm hA.2.2.1))
                  have hal := al_k hal (hk1 ao hA.2.2.2.2.1)
                  have hab := ai_k hab (hk1 af hA.2.2.2.2.2.2.1)
                  have hel := ai_k hel (hk1 ea (Ne.symm hA.2.2.2.2.2.2.2.2.1))
                  have hk : ∀ q, q ≠ mo → q ≠ sa → q ≠ ea → H6[q]? = s.heap[q]? := fun q h1 h2 h3 => (hk1 q h2).trans (hk q h1 h2 h3)
                  have hz := hz1.trans hz
                  refine lv_aload_n hx hb dM_table_48 rfl (lv_at hl 1 rfl) ?_
                  refine va_get (D := G) (ci := 4) (v := .ref ea) (C := RM) (T := TM) (N := 8) hx hb htA inM hown hK (ob_P hob) 0 rfl rfl 7 (by decide) (htA _ wd442) (fun _ h9 => h9) rfl dM_table_49 ?_
                  refine lv_iload_n hx hb dM_table_52 rfl (lv_at hl 3 rfl) ?_
                  refine lv_iload hx hb dM_table_53 (lv_at hl 0 rfl) ?_
                  refine pw_iast (F := mW mo sa ea) hx hb hK hel 1 rfl (show D.length < 64 by omega) (by decide) hL (Or.inr (Or.inr rfl)) dM_table_55 (fun H7 lc7 hel hz1 hk1 hL => ?_)
                  have hob := ob_k hob (hk1 mo (Ne.symm hA.2.2.2.1))
                  have hal := al_k hal (hk1 ao hA.2.2.2.2.2.1)
                  have hab := ai_k hab (hk1 af hA.2.2.2.2.2.2.2.1)
                  have hsl := ai_k hsl (hk1 sa hA.2.2.2.2.2.2.2.2.1)
                  have hk : ∀ q, q ≠ mo → q ≠ sa → q ≠ ea → H7[q]? = s.heap[q]? := fun q h1 h2 h3 => (hk1 q h3).trans (hk q h1 h2 h3)
                  have hz := hz1.trans hz
                  refine lv_iinc (v := nI (D.length + 1)) (lv' := [(2, .int (nI (D.length + 1))), (4, .int (nI 1)), (0, .ref mo), (1, .int (nI a)), (3, .int (nI y))]) hx hb dM_table_56 hl (k := 3) rfl (nI_1 D.length) (by decide) rfl (fun ls hl => ?_)
                  refine lv_iload_n hx hb dM_table_59 rfl (lv_at hl 4 rfl) ?_
                  refine lv_iload hx hb dM_table_60 (lv_at hl 1 rfl) ?_
                  refine lv_iadd hx hb dM_table_62 ?_
                  refine pw_ti (y := nI (y + 1)) (nI_add _ _) ?_
                  refine lv_istore_n (lv' := [(3, .int (nI (y + 1))), (2, .int (nI (D.length + 1))), (4, .int (nI 1)), (0, .ref mo), (1, .int (nI a))]) hx hb dM_table_63 rfl hl (by decide) rfl (fun ls hl => ?_)
                  refine lv_goto (tgt := 4) hx hb dM_table_64 (by decide) ?_
                  have hlen : D.length + 1 = (D ++ [(y, 0)]).length := by rw [List.length_append]; rfl
                  rw [hlen] at hl
                  exact ih (y + 1) (D ++ [(y, 0)]) f2 H7 lc7 lw11 hg12 (upd fS D.length (nI y)) (upd fE D.length (nI 1)) (by omega) (by omega) (by rw [← hlen]; omega) (by omega) (by rw [hT, List.append_assoc]; rfl) (rowsOf_s hrows y 0) hob hal hab hsl hel hz hk hL ls (lv_sub hl [3, 4, 1, 0] rfl)
        · have hm3 : y % 64 = 0 := (nI_eq (by omega) (by decide)).mp (e3.trans nI_0.symm)
          refine lv_aload_n hx hb dM_table_21 rfl (lv_at hl 1 rfl) ?_
          refine lv_iload_n hx hb dM_table_22 rfl (lv_at hl 2 rfl) ?_
          refine lv_iload_n hx hb dM_table_23 rfl (lv_at hl 4 rfl) ?_
          refine lv_iload hx hb dM_table_24 (lv_at hl 0 rfl) ?_
          refine pw_call (F := mW mo sa ea) (va_runV (As := [.int (nI a), .int (nI y), .int (nI 64)]) (rest := []) ⟨hx, hb, hml, hown, htA⟩ (m_uniform l G cA mo ao af sa ea n fo th lw hg a y 64 ha (by decide) (by omega)) (cwV 3 htA (gd_V wd547 wd549 wd23 wd28 wd550) rfl rfl rfl (by decide +kernel) (by rw [hR]; exact ⟨Nat.le_of_ble_eq_true rfl, Nat.le_of_ble_eq_true rfl⟩)) (pw_V (ci := 4) (q := (RM, TM, 8)) hKN hob rfl ⟨hA.1, hob, hal⟩) rfl rfl hl.1 rfl (lv_room (Nat.le_of_ble_eq_true rfl)) dM_table_26 (by rw [hR]; exact ⟨Nat.le_of_ble_eq_true rfl, Nat.le_of_ble_eq_true rfl⟩)) hL (fun q h => Or.inl h) (fun v9 st9 t9 lc2 h0 ha9 hL hq9 => ?_)
          obtain ⟨hv9, ⟨lw3, hg4, hob⟩, hz1, hk1⟩ := hq9
          cases hv9
          rw [h0] at hz1 hk1
          generalize t9.heap = H1 at hob hz1 hk1 ⊢
          have hal := al_k hal (hk1 ao hA.1)
          have hab := ai_k hab (hk1 af hA.2.1)
          have hsl := ai_k hsl (hk1 sa hA.2.2.1)
          have hel := ai_k hel (hk1 ea hA.2.2.2.1)
          have hk : ∀ q, q ≠ mo → q ≠ sa → q ≠ ea → H1[q]? = s.heap[q]? := fun q h1 h2 h3 => (hk1 q h1).trans (hk q h1 h2 h3)
          have hz := hz1.trans hz
          have h63 := uni_63 (fun k => fo (64 * a + k)) y 64
          refine pw_ti (y := bI (uni 64 (fun k => fo (64 * a + k)) y 64)) (by rw [h63]) ?_
          refine lv_if_ne (tgt := 41) hx hb dM_table_29 (by decide) (fun u3 => ?_) (fun u3 => ?_)
          · have hu := bI_ne.mp u3
            have hgz : gz (uni 64 (fun k => fo (64 * a + k))) y = 3 := (by unfold gz; rw [if_pos ⟨hm3, hu⟩])
            obtain ⟨f2, rfl⟩ : ∃ f2, fl = f2 + 1 := ⟨fl - 1, by omega⟩
            rw [grd_s hlt, hgz] at hT
            refine lv_aload_n hx hb dM_table_41 rfl (lv_at hl 1 rfl) ?_
            refine va_get (D := G) (ci := 4) (v := .ref sa) (C := RM) (T := TM) (N := 8) hx hb htA inM hown hK (ob_P hob) 0 rfl rfl 6 (by decide) (htA _ wd441) (fun _ h9 => h9) rfl dM_table_42 ?_
            refine lv_iload_n hx hb dM_table_45 rfl (lv_at hl 3 rfl) ?_
            refine lv_iload_n hx hb dM_table_46 rfl (lv_at hl 4 rfl) ?_
            refine pw_iast (F := mW mo sa ea) hx hb hK hsl 1 rfl (show D.length < 64 by omega) (by decide) hL (Or.inr (Or.inl rfl)) dM_table_47 (fun H6 lc6 hsl hz1 hk1 hL => ?_)
            have hob := ob_k hob (hk1 mo (Ne.symm hA.2.2.1))
            have hal := al_k hal (hk1 ao hA.2.2.2.2.1)
            have hab := ai_k hab (hk1 af hA.2.2.2.2.2.2.1)
            have hel := ai_k hel (hk1 ea (Ne.symm hA.2.2.2.2.2.2.2.2.1))
            have hk : ∀ q, q ≠ mo → q ≠ sa → q ≠ ea → H6[q]? = s.heap[q]? := fun q h1 h2 h3 => (hk1 q h2).trans (hk q h1 h2 h3)
            have hz := hz1.trans hz
            refine lv_aload_n hx hb dM_table_48 rfl (lv_at hl 1 rfl) ?_
            refine va_get (D := G) (ci := 4) (v := .ref ea) (C := RM) (T := TM) (N := 8) hx hb htA inM hown hK (ob_P hob) 0 rfl rfl 7 (by decide) (htA _ wd442) (fun _ h9 => h9) rfl dM_table_49 ?_
            refine lv_iload_n hx hb dM_table_52 rfl (lv_at hl 3 rfl) ?_
            refine lv_iload hx hb dM_table_53 (lv_at hl 0 rfl) ?_
            refine pw_iast (F := mW mo sa ea) hx hb hK hel 1 rfl (show D.length < 64 by omega) (by decide) hL (Or.inr (Or.inr rfl)) dM_table_55 (fun H7 lc7 hel hz1 hk1 hL => ?_)
            have hob := ob_k hob (hk1 mo (Ne.symm hA.2.2.2.1))
            have hal := al_k hal (hk1 ao hA.2.2.2.2.2.1)
            have hab := ai_k hab (hk1 af hA.2.2.2.2.2.2.2.1)
            have hsl := ai_k hsl (hk1 sa hA.2.2.2.2.2.2.2.2.1)
            have hk : ∀ q, q ≠ mo → q ≠ sa → q ≠ ea → H7[q]? = s.heap[q]? := fun q h1 h2 h3 => (hk1 q h3).trans (hk q h1 h2 h3)
            have hz := hz1.trans hz
            refine lv_iinc (v := nI (D.length + 1)) (lv' := [(2, .int (nI (D.length + 1))), (4, .int (nI 64)), (0, .ref mo), (1, .int (nI a)), (3, .int (nI y))]) hx hb dM_table_56 hl (k := 3) rfl (nI_1 D.length) (by decide) rfl (fun ls hl => ?_)
            refine lv_iload_n hx hb dM_table_59 rfl (lv_at hl 4 rfl) ?_
            refine lv_iload hx hb dM_table_60 (lv_at hl 1 rfl) ?_
            refine lv_iadd hx hb dM_table_62 ?_
            refine pw_ti (y := nI (y + 64)) (nI_add _ _) ?_
            refine lv_istore_n (lv' := [(3, .int (nI (y + 64))), (2, .int (nI (D.length + 1))), (4, .int (nI 64)), (0, .ref mo), (1, .int (nI a))]) hx hb dM_table_63 rfl hl (by decide) rfl (fun ls hl => ?_)
            refine lv_goto (tgt := 4) hx hb dM_table_64 (by decide) ?_
            have hlen : D.length + 1 = (D ++ [(y, 3)]).length := by rw [List.length_append]; rfl
            rw [hlen] at hl
            exact ih (y + 64) (D ++ [(y, 3)]) f2 H7 lc7 lw3 hg4 (upd fS D.length (nI y)) (upd fE D.length (nI 64)) (by omega) (by omega) (by rw [← hlen]; omega) (by omega) (by rw [hT, List.append_assoc]; rfl) (rowsOf_s hrows y 3) hob hal hab hsl hel hz hk hL ls (lv_sub hl [3, 4, 1, 0] rfl)
          · have hu := bI_eq.mp u3
            have n3 : ¬ (y % 64 = 0 ∧ (uni 64 (fun k => fo (64 * a + k))) y 64 = true) := fun q9 => by rw [hu] at q9; exact absurd q9.2 (by decide)
            refine lv_iload hx hb dM_table_32 (lv_at hl 0 rfl) ?_
            refine lv_iconst (v := nI 4) hx hb dM_table_34 (by decide) ?_
            refine lv_idiv hx hb dM_table_35 (by decide) ?_
            refine pw_ti (y := nI 16) (by decide) ?_
            refine lv_istore (lv' := [(4, .int (nI 16)), (0, .ref mo), (1, .int (nI a)), (2, .int (nI D.length)), (3, .int (nI y))]) hx hb dM_table_36 hl (by decide) rfl (fun ls hl => ?_)
            refine lv_goto (tgt := 14) hx hb dM_table_38 (by decide) ?_
            refine lv_iload_n hx hb dM_table_14 rfl (lv_at hl 4 rfl) ?_
            refine lv_iload hx hb dM_table_15 (lv_at hl 0 rfl) ?_
            refine lv_irem hx hb dM_table_17 (by decide) ?_
            refine pw_ti (y := nI (y % 16)) (pk_rem (by omega) (by decide) (by decide)) ?_
            refine lv_if_ne (tgt := 32) hx hb dM_table_18 (by decide) (fun e2 => ?_) (fun e2 => ?_)
            · have n2 : ¬ (y % 16 = 0 ∧ (uni 64 (fun k => fo (64 * a + k))) y 16 = true) := fun q9 => e2 (by rw [q9.1]; rfl)
              refine lv_iload hx hb dM_table_32 (lv_at hl 0 rfl) ?_
              refine lv_iconst (v := nI 4) hx hb dM_table_34 (by decide) ?_
              refine lv_idiv hx hb dM_table_35 (by decide) ?_
              refine pw_ti (y := nI 4) (by decide) ?_
              refine lv_istore (lv' := [(4, .int (nI 4)), (0, .ref mo), (1, .int (nI a)), (2, .int (nI D.length)), (3, .int (nI y))]) hx hb dM_table_36 hl (by decide) rfl (fun ls hl => ?_)
              refine lv_goto (tgt := 14) hx hb dM_table_38 (by decide) ?_
              refine lv_iload_n hx hb dM_table_14 rfl (lv_at hl 4 rfl) ?_
              refine lv_iload hx hb dM_table_15 (lv_at hl 0 rfl) ?_
              refine lv_irem hx hb dM_table_17 (by decide) ?_
              refine pw_ti (y := nI (y % 4)) (pk_rem (by omega) (by decide) (by decide)) ?_
              refine lv_if_ne (tgt := 32) hx hb dM_table_18 (by decide) (fun e1 => ?_) (fun e1 => ?_)
              · have n1 : ¬ (y % 4 = 0 ∧ (uni 64 (fun k => fo (64 * a + k))) y 4 = true) := fun q9 => e1 (by rw [q9.1]; rfl)
                refine lv_iload hx hb dM_table_32 (lv_at hl 0 rfl) ?_
                refine lv_iconst (v := nI 4) hx hb dM_table_34 (by decide) ?_
                refine lv_idiv hx hb dM_table_35 (by decide) ?_
                refine pw_ti (y := nI 1) (by decide) ?_
                refine lv_istore (lv' := [(4, .int (nI 1)), (0, .ref mo), (1, .int (nI a)), (2, .int (nI D.length)), (3, .int (nI y))]) hx hb dM_table_36 hl (by decide) rfl (fun ls hl => ?_)
                refine lv_goto (tgt := 14) hx hb dM_table_38 (by decide) ?_
                refine lv_iload_n hx hb dM_table_14 rfl (lv_at hl 4 rfl) ?_
                refine lv_iload hx hb dM_table_15 (lv_at hl 0 rfl) ?_
                refine lv_irem hx hb dM_table_17 (by decide) ?_
                refine pw_ti (y := nI (y % 1)) (pk_rem (by omega) (by decide) (by decide)) ?_
                have hm0 : y % 1 = 0 := Nat.mod_one y
                rw [hm0]
                refine lv_if_ne (tgt := 32) hx hb dM_table_18 (by decide) (fun c9 => absurd rfl c9) (fun _ => ?_)
                refine lv_aload_n hx hb dM_table_21 rfl (lv_at hl 1 rfl) ?_
                refine lv_iload_n hx hb dM_table_22 rfl (lv_at hl 2 rfl) ?_
                refine lv_iload_n hx hb dM_table_23 rfl (lv_at hl 4 rfl) ?_
                refine lv_iload hx hb dM_table_24 (lv_at hl 0 rfl) ?_
                refine pw_call (F := mW mo sa ea) (va_runV (As := [.int (nI a), .int (nI y), .int (nI 1)]) (rest := []) ⟨hx, hb, hml, hown, htA⟩ (m_uniform l G cA mo ao af sa ea n fo th lw3 hg4 a y 1 ha (by decide) (by omega)) (cwV 3 htA (gd_V wd547 wd549 wd23 wd28 wd550) rfl rfl rfl (by decide +kernel) (by rw [hR]; exact ⟨Nat.le_of_ble_eq_true rfl, Nat.le_of_ble_eq_true rfl⟩)) (pw_V (ci := 4) (q := (RM, TM, 8)) hKN hob rfl ⟨hA.1, hob, hal⟩) rfl rfl hl.1 rfl (lv_room (Nat.le_of_ble_eq_true rfl)) dM_table_26 (by rw [hR]; exact ⟨Nat.le_of_ble_eq_true rfl, Nat.le_of_ble_eq_true rfl⟩)) hL (fun q h => Or.inl h) (fun v9 st9 t9 lc6 h0 ha9 hL hq9 => ?_)
                obtain ⟨hv9, ⟨lw7, hg8, hob⟩, hz1, hk1⟩ := hq9
                cases hv9
                rw [h0] at hz1 hk1
                generalize t9.heap = H5 at hob hz1 hk1 ⊢
                have hal := al_k hal (hk1 ao hA.1)
                have hab := ai_k hab (hk1 af hA.2.1)
                have hsl := ai_k hsl (hk1 sa hA.2.2.1)
                have hel := ai_k hel (hk1 ea hA.2.2.2.1)
                have hk : ∀ q, q ≠ mo → q ≠ sa → q ≠ ea → H5[q]? = s.heap[q]? := fun q h1 h2 h3 => (hk1 q h1).trans (hk q h1 h2 h3)
                have hz := hz1.trans hz
                have h63 := uni_63 (fun k => fo (64 * a + k)) y 1
                refine pw_ti (y := bI (uni 64 (fun k => fo (64 * a + k)) y 1)) (by rw [h63]) ?_
                rw [uni_1]
                refine lv_if_ne (tgt := 41) hx hb dM_table_29 (by decide) (fun _ => ?_) (fun c9 => absurd c9 (by decide))
                have hgz : gz (uni 64 (fun k => fo (64 * a + k))) y = 0 := (by unfold gz; rw [if_neg n3, if_neg n2, if_neg n1])
                obtain ⟨f2, rfl⟩ : ∃ f2, fl = f2 + 1 := ⟨fl - 1, by omega⟩
                rw [grd_s hlt, hgz] at hT
                refine lv_aload_n hx hb dM_table_41 rfl (lv_at hl 1 rfl) ?_
                refine va_get (D := G) (ci := 4) (v := .ref sa) (C := RM) (T := TM) (N := 8) hx hb htA inM hown hK (ob_P hob) 0 rfl rfl 6 (by decide) (htA _ wd441) (fun _ h9 => h9) rfl dM_table_42 ?_
                refine lv_iload_n hx hb dM_table_45 rfl (lv_at hl 3 rfl) ?_
                refine lv_iload_n hx hb dM_table_46 rfl (lv_at hl 4 rfl) ?_
                refine pw_iast (F := mW mo sa ea) hx hb hK hsl 1 rfl (show D.length < 64 by omega) (by decide) hL (Or.inr (Or.inl rfl)) dM_table_47 (fun H6 lc6 hsl hz1 hk1 hL => ?_)
                have hob := ob_k hob (hk1 mo (Ne.symm hA.2.2.1))
                have hal := al_k hal (hk1 ao hA.2.2.2.2.1)
                have hab := ai_k hab (hk1 af hA.2.2.2.2.2.2.1)
                have hel := ai_k hel (hk1 ea (Ne.symm hA.2.2.2.2.2.2.2.2.1))
                have hk : ∀ q, q ≠ mo → q ≠ sa → q ≠ ea → H6[q]? = s.heap[q]? := fun q h1 h2 h3 => (hk1 q h2).trans (hk q h1 h2 h3)
                have hz := hz1.trans hz
                refine lv_aload_n hx hb dM_table_48 rfl (lv_at hl 1 rfl) ?_
                refine va_get (D := G) (ci := 4) (v := .ref ea) (C := RM) (T := TM) (N := 8) hx hb htA inM hown hK (ob_P hob) 0 rfl rfl 7 (by decide) (htA _ wd442) (fun _ h9 => h9) rfl dM_table_49 ?_
                refine lv_iload_n hx hb dM_table_52 rfl (lv_at hl 3 rfl) ?_
                refine lv_iload hx hb dM_table_53 (lv_at hl 0 rfl) ?_
                refine pw_iast (F := mW mo sa ea) hx hb hK hel 1 rfl (show D.length < 64 by omega) (by decide) hL (Or.inr (Or.inr rfl)) dM_table_55 (fun H7 lc7 hel hz1 hk1 hL => ?_)
                have hob := ob_k hob (hk1 mo (Ne.symm hA.2.2.2.1))
                have hal := al_k hal (hk1 ao hA.2.2.2.2.2.1)
                have hab := ai_k hab (hk1 af hA.2.2.2.2.2.2.2.1)
                have hsl := ai_k hsl (hk1 sa hA.2.2.2.2.2.2.2.2.1)
                have hk : ∀ q, q ≠ mo → q ≠ sa → q ≠ ea → H7[q]? = s.heap[q]? := fun q h1 h2 h3 => (hk1 q h3).trans (hk q h1 h2 h3)
                have hz := hz1.trans hz
                refine lv_iinc (v := nI (D.length + 1)) (lv' := [(2, .int (nI (D.length + 1))), (4, .int (nI 1)), (0, .ref mo), (1, .int (nI a)), (3, .int (nI y))]) hx hb dM_table_56 hl (k := 3) rfl (nI_1 D.length) (by decide) rfl (fun ls hl => ?_)
                refine lv_iload_n hx hb dM_table_59 rfl (lv_at hl 4 rfl) ?_
                refine lv_iload hx hb dM_table_60 (lv_at hl 1 rfl) ?_
                refine lv_iadd hx hb dM_table_62 ?_
                refine pw_ti (y := nI (y + 1)) (nI_add _ _) ?_
                refine lv_istore_n (lv' := [(3, .int (nI (y + 1))), (2, .int (nI (D.length + 1))), (4, .int (nI 1)), (0, .ref mo), (1, .int (nI a))]) hx hb dM_table_63 rfl hl (by decide) rfl (fun ls hl => ?_)
                refine lv_goto (tgt := 4) hx hb dM_table_64 (by decide) ?_
                have hlen : D.length + 1 = (D ++ [(y, 0)]).length := by rw [List.length_append]; rfl
                rw [hlen] at hl
                exact ih (y + 1) (D ++ [(y, 0)]) f2 H7 lc7 lw7 hg8 (upd fS D.length (nI y)) (upd fE D.length (nI 1)) (by omega) (by omega) (by rw [← hlen]; omega) (by omega) (by rw [hT, List.append_assoc]; rfl) (rowsOf_s hrows y 0) hob hal hab hsl hel hz hk hL ls (lv_sub hl [3, 4, 1, 0] rfl)
              · have hm1 : y % 4 = 0 := (nI_eq (by omega) (by decide)).mp (e1.trans nI_0.symm)
                refine lv_aload_n hx hb dM_table_21 rfl (lv_at hl 1 rfl) ?_
                refine lv_iload_n hx hb dM_table_22 rfl (lv_at hl 2 rfl) ?_
                refine lv_iload_n hx hb dM_table_23 rfl (lv_at hl 4 rfl) ?_
                refine lv_iload hx hb dM_table_24 (lv_at hl 0 rfl) ?_
                refine pw_call (F := mW mo sa ea) (va_runV (As := [.int (nI a), .int (nI y), .int (nI 4)]) (rest := []) ⟨hx, hb, hml, hown, htA⟩ (m_uniform l G cA mo ao af sa ea n fo th lw3 hg4 a y 4 ha (by decide) (by omega)) (cwV 3 htA (gd_V wd547 wd549 wd23 wd28 wd550) rfl rfl rfl (by decide +kernel) (by rw [hR]; exact ⟨Nat.le_of_ble_eq_true rfl, Nat.le_of_ble_eq_true rfl⟩)) (pw_V (ci := 4) (q := (RM, TM, 8)) hKN hob rfl ⟨hA.1, hob, hal⟩) rfl rfl hl.1 rfl (lv_room (Nat.le_of_ble_eq_true rfl)) dM_table_26 (by rw [hR]; exact ⟨Nat.le_of_ble_eq_true rfl, Nat.le_of_ble_eq_true rfl⟩)) hL (fun q h => Or.inl h) (fun v9 st9 t9 lc6 h0 ha9 hL hq9 => ?_)
                obtain ⟨hv9, ⟨lw7, hg8, hob⟩, hz1, hk1⟩ := hq9
                cases hv9
                rw [h0] at hz1 hk1
                generalize t9.heap = H5 at hob hz1 hk1 ⊢
                have hal := al_k hal (hk1 ao hA.1)
                have hab := ai_k hab (hk1 af hA.2.1)
                have hsl := ai_k hsl (hk1 sa hA.2.2.1)
                have hel := ai_k hel (hk1 ea hA.2.2.2.1)
                have hk : ∀ q, q ≠ mo → q ≠ sa → q ≠ ea → H5[q]? = s.heap[q]? := fun q h1 h2 h3 => (hk1 q h1).trans (hk q h1 h2 h3)
                have hz := hz1.trans hz
                have h63 := uni_63 (fun k => fo (64 * a + k)) y 4
                refine pw_ti (y := bI (uni 64 (fun k => fo (64 * a + k)) y 4)) (by rw [h63]) ?_
                refine lv_if_ne (tgt := 41) hx hb dM_table_29 (by decide) (fun u1 => ?_) (fun u1 => ?_)
                · have hu := bI_ne.mp u1
                  have hgz : gz (uni 64 (fun k => fo (64 * a + k))) y = 1 := (by unfold gz; rw [if_neg n3, if_neg n2, if_pos ⟨hm1, hu⟩])
                  obtain ⟨f2, rfl⟩ : ∃ f2, fl = f2 + 1 := ⟨fl - 1, by omega⟩
                  rw [grd_s hlt, hgz] at hT
                  refine lv_aload_n hx hb dM_table_41 rfl (lv_at hl 1 rfl) ?_
                  refine va_get (D := G) (ci := 4) (v := .ref sa) (C := RM) (T := TM) (N := 8) hx hb htA inM hown hK (ob_P hob) 0 rfl rfl 6 (by decide) (htA _ wd441) (fun _ h9 => h9) rfl dM_table_42 ?_
                  refine lv_iload_n hx hb dM_table_45 rfl (lv_at hl 3 rfl) ?_
                  refine lv_iload_n hx hb dM_table_46 rfl (lv_at hl 4 rfl) ?_
                  refine pw_iast (F := mW mo sa ea) hx hb hK hsl 1 rfl (show D.length < 64 by omega) (by decide) hL (Or.inr (Or.inl rfl)) dM_table_47 (fun H6 lc6 hsl hz1 hk1 hL => ?_)
                  have hob := ob_k hob (hk1 mo (Ne.symm hA.2.2.1))
                  have hal := al_k hal (hk1 ao hA.2.2.2.2.1)
                  have hab := ai_k hab (hk1 af hA.2.2.2.2.2.2.1)
                  have hel := ai_k hel (hk1 ea (Ne.symm hA.2.2.2.2.2.2.2.2.1))
                  have hk : ∀ q, q ≠ mo → q ≠ sa → q ≠ ea → H6[q]? = s.heap[q]? := fun q h1 h2 h3 => (hk1 q h2).trans (hk q h1 h2 h3)
                  have hz := hz1.trans hz
                  refine lv_aload_n hx hb dM_table_48 rfl (lv_at hl 1 rfl) ?_
                  refine va_get (D := G) (ci := 4) (v := .ref ea) (C := RM) (T := TM) (N := 8) hx hb htA inM hown hK (ob_P hob) 0 rfl rfl 7 (by decide) (htA _ wd442) (fun _ h9 => h9) rfl dM_table_49 ?_
                  refine lv_iload_n hx hb dM_table_52 rfl (lv_at hl 3 rfl) ?_
                  refine lv_iload hx hb dM_table_53 (lv_at hl 0 rfl) ?_
                  refine pw_iast (F := mW mo sa ea) hx hb hK hel 1 rfl (show D.length < 64 by omega) (by decide) hL (Or.inr (Or.inr rfl)) dM_table_55 (fun H7 lc7 hel hz1 hk1 hL => ?_)
                  have hob := ob_k hob (hk1 mo (Ne.symm hA.2.2.2.1))
                  have hal := al_k hal (hk1 ao hA.2.2.2.2.2.1)
                  have hab := ai_k hab (hk1 af hA.2.2.2.2.2.2.2.1)
                  have hsl := ai_k hsl (hk1 sa hA.2.2.2.2.2.2.2.2.1)
                  have hk : ∀ q, q ≠ mo → q ≠ sa → q ≠ ea → H7[q]? = s.heap[q]? := fun q h1 h2 h3 => (hk1 q h3).trans (hk q h1 h2 h3)
                  have hz := hz1.trans hz
                  refine lv_iinc (v := nI (D.length + 1)) (lv' := [(2, .int (nI (D.length + 1))), (4, .int (nI 4)), (0, .ref mo), (1, .int (nI a)), (3, .int (nI y))]) hx hb dM_table_56 hl (k := 3) rfl (nI_1 D.length) (by decide) rfl (fun ls hl => ?_)
                  refine lv_iload_n hx hb dM_table_59 rfl (lv_at hl 4 rfl) ?_
                  refine lv_iload hx hb dM_table_60 (lv_at hl 1 rfl) ?_
                  refine lv_iadd hx hb dM_table_62 ?_
                  refine pw_ti (y := nI (y + 4)) (nI_add _ _) ?_
                  refine lv_istore_n (lv' := [(3, .int (nI (y + 4))), (2, .int (nI (D.length + 1))), (4, .int (nI 4)), (0, .ref mo), (1, .int (nI a))]) hx hb dM_table_63 rfl hl (by decide) rfl (fun ls hl => ?_)
                  refine lv_goto (tgt := 4) hx hb dM_table_64 (by decide) ?_
                  have hlen : D.length + 1 = (D ++ [(y, 1)]).length := by rw [List.length_append]; rfl
                  rw [hlen] at hl
                  exact ih (y + 4) (D ++ [(y, 1)]) f2 H7 lc7 lw7 hg8 (upd fS D.length (nI y)) (upd fE D.length (nI 4)) (by omega) (by omega) (by rw [← hlen]; omega) (by omega) (by rw [hT, List.append_assoc]; rfl) (rowsOf_s hrows y 1) hob hal hab hsl hel hz hk hL ls (lv_sub hl [3, 4, 1, 0] rfl)
                · have hu := bI_eq.mp u1
                  have n1 : ¬ (y % 4 = 0 ∧ (uni 64 (fun k => fo (64 * a + k))) y 4 = true) := fun q9 => by rw [hu] at q9; exact absurd q9.2 (by decide)
                  refine lv_iload hx hb dM_table_32 (lv_at hl 0 rfl) ?_
                  refine lv_iconst (v := nI 4) hx hb dM_table_34 (by decide) ?_
                  refine lv_idiv hx hb dM_table_35 (by decide) ?_
                  refine pw_ti (y := nI 1) (by decide) ?_
                  refine lv_istore (lv' := [(4, .int (nI 1)), (0, .ref mo), (1, .int (nI a)), (2, .int (nI D.length)), (3, .int (nI y))]) hx hb dM_table_36 hl (by decide) rfl (fun ls hl => ?_)
                  refine lv_goto (tgt := 14) hx hb dM_table_38 (by decide) ?_
                  refine lv_iload_n hx hb dM_table_14 rfl (lv_at hl 4 rfl) ?_
                  refine lv_iload hx hb dM_table_15 (lv_at hl 0 rfl) ?_
                  refine lv_irem hx hb dM_table_17 (by decide) ?_
                  refine pw_ti (y := nI (y % 1)) (pk_rem (by omega) (by decide) (by decide)) ?_
                  have hm0 : y % 1 = 0 := Nat.mod_one y
                  rw [hm0]
                  refine lv_if_ne (tgt := 32) hx hb dM_table_18 (by decide) (fun c9 => absurd rfl c9) (fun _ => ?_)
                  refine lv_aload_n hx hb dM_table_21 rfl (lv_at hl 1 rfl) ?_
                  refine lv_iload_n hx hb dM_table_22 rfl (lv_at hl 2 rfl) ?_
                  refine lv_iload_n hx hb dM_table_23 rfl (lv_at hl 4 rfl) ?_
                  refine lv_iload hx hb dM_table_24 (lv_at hl 0 rfl) ?_
                  refine pw_call (F := mW mo sa ea) (va_runV (As := [.int (nI a), .int (nI y), .int (nI 1)]) (rest := []) ⟨hx, hb, hml, hown, htA⟩ (m_uniform l G cA mo ao af sa ea n fo th lw7 hg8 a y 1 ha (by decide) (by omega)) (cwV 3 htA (gd_V wd547 wd549 wd23 wd28 wd550) rfl rfl rfl (by decide +kernel) (by rw [hR]; exact ⟨Nat.le_of_ble_eq_true rfl, Nat.le_of_ble_eq_true rfl⟩)) (pw_V (ci := 4) (q := (RM, TM, 8)) hKN hob rfl ⟨hA.1, hob, hal⟩) rfl rfl hl.1 rfl (lv_room (Nat.le_of_ble_eq_true rfl)) dM_table_26 (by rw [hR]; exact ⟨Nat.le_of_ble_eq_true rfl, Nat.le_of_ble_eq_true rfl⟩)) hL (fun q h => Or.inl h) (fun v9 st9 t9 lc10 h0 ha9 hL hq9 => ?_)
                  obtain ⟨hv9, ⟨lw11, hg12, hob⟩, hz1, hk1⟩ := hq9
                  cases hv9
                  rw [h0] at hz1 hk1
                  generalize t9.heap = H9 at hob hz1 hk1 ⊢
                  have hal := al_k hal (hk1 ao hA.1)
                  have hab := ai_k hab (hk1 af hA.2.1)
                  have hsl := ai_k hsl (hk1 sa hA.2.2.1)
                  have hel := ai_k hel (hk1 ea hA.2.2.2.1)
                  have hk : ∀ q, q ≠ mo → q ≠ sa → q ≠ ea → H9[q]? = s.heap[q]? := fun q h1 h2 h3 => (hk1 q h1).trans (hk q h1 h2 h3)
                  have hz := hz1.trans hz
                  have h63 := uni_63 (fun k => fo (64 * a + k)) y 1
                  refine pw_ti (y := bI (uni 64 (fun k => fo (64 * a + k)) y 1)) (by rw [h63]) ?_
                  rw [uni_1]
                  refine lv_if_ne (tgt := 41) hx hb dM_table_29 (by decide) (fun _ => ?_) (fun c9 => absurd c9 (by decide))
                  have hgz : gz (uni 64 (fun k => fo (64 * a + k))) y = 0 := (by unfold gz; rw [if_neg n3, if_neg n2, if_neg n1])
                  obtain ⟨f2, rfl⟩ : ∃ f2, fl = f2 + 1 := ⟨fl - 1, by omega⟩
                  rw [grd_s hlt, hgz] at hT
                  refine lv_aload_n hx hb dM_table_41 rfl (lv_at hl 1 rfl) ?_
                  refine va_get (D := G) (ci := 4) (v := .ref sa) (C := RM) (T := TM) (N := 8) hx hb htA inM hown hK (ob_P hob) 0 rfl rfl 6 (by decide) (htA _ wd441) (fun _ h9 => h9) rfl dM_table_42 ?_
                  refine lv_iload_n hx hb dM_table_45 rfl (lv_at hl 3 rfl) ?_
                  refine lv_iload_n hx hb dM_table_46 rfl (lv_at hl 4 rfl) ?_
                  refine pw_iast (F := mW mo sa ea) hx hb hK hsl 1 rfl (show D.length < 64 by omega) (by decide) hL (Or.inr (Or.inl rfl)) dM_table_47 (fun H6 lc6 hsl hz1 hk1 hL => ?_)
                  have hob := ob_k hob (hk1 mo (Ne.symm hA.2.2.1))
                  have hal := al_k hal (hk1 ao hA.2.2.2.2.1)
                  have hab := ai_k hab (hk1 af hA.2.2.2.2.2.2.1)
                  have hel := ai_k hel (hk1 ea (Ne.symm hA.2.2.2.2.2.2.2.2.1))
                  have hk : ∀ q, q ≠ mo → q ≠ sa → q ≠ ea → H6[q]? = s.heap[q]? := fun q h1 h2 h3 => (hk1 q h2).trans (hk q h1 h2 h3)
                  have hz := hz1.trans hz
                  refine lv_aload_n hx hb dM_table_48 rfl (lv_at hl 1 rfl) ?_
                  refine va_get (D := G) (ci := 4) (v := .ref ea) (C := RM) (T := TM) (N := 8) hx hb htA inM hown hK (ob_P hob) 0 rfl rfl 7 (by decide) (htA _ wd442) (fun _ h9 => h9) rfl dM_table_49 ?_
                  refine lv_iload_n hx hb dM_table_52 rfl (lv_at hl 3 rfl) ?_
                  refine lv_iload hx hb dM_table_53 (lv_at hl 0 rfl) ?_
                  refine pw_iast (F := mW mo sa ea) hx hb hK hel 1 rfl (show D.length < 64 by omega) (by decide) hL (Or.inr (Or.inr rfl)) dM_table_55 (fun H7 lc7 hel hz1 hk1 hL => ?_)
                  have hob := ob_k hob (hk1 mo (Ne.symm hA.2.2.2.1))
                  have hal := al_k hal (hk1 ao hA.2.2.2.2.2.1)
                  have hab := ai_k hab (hk1 af hA.2.2.2.2.2.2.2.1)
                  have hsl := ai_k hsl (hk1 sa hA.2.2.2.2.2.2.2.2.1)
                  have hk : ∀ q, q ≠ mo → q ≠ sa → q ≠ ea → H7[q]? = s.heap[q]? := fun q h1 h2 h3 => (hk1 q h3).trans (hk q h1 h2 h3)
                  have hz := hz1.trans hz
                  refine lv_iinc (v := nI (D.length + 1)) (lv' := [(2, .int (nI (D.length + 1))), (4, .int (nI 1)), (0, .ref mo), (1, .int (nI a)), (3, .int (nI y))]) hx hb dM_table_56 hl (k := 3) rfl (nI_1 D.length) (by decide) rfl (fun ls hl => ?_)
                  refine lv_iload_n hx hb dM_table_59 rfl (lv_at hl 4 rfl) ?_
                  refine lv_iload hx hb dM_table_60 (lv_at hl 1 rfl) ?_
                  refine lv_iadd hx hb dM_table_62 ?_
                  refine pw_ti (y := nI (y + 1)) (nI_add _ _) ?_
                  refine lv_istore_n (lv' := [(3, .int (nI (y + 1))), (2, .int (nI (D.length + 1))), (4, .int (nI 1)), (0, .ref mo), (1, .int (nI a))]) hx hb dM_table_63 rfl hl (by decide) rfl (fun ls hl => ?_)
                  refine lv_goto (tgt := 4) hx hb dM_table_64 (by decide) ?_
                  have hlen : D.length + 1 = (D ++ [(y, 0)]).length := by rw [List.length_append]; rfl
                  rw [hlen] at hl
                  exact ih (y + 1) (D ++ [(y, 0)]) f2 H7 lc7 lw11 hg12 (upd fS D.length (nI y)) (upd fE D.length (nI 1)) (by omega) (by omega) (by rw [← hlen]; omega) (by omega) (by rw [hT, List.append_assoc]; rfl) (rowsOf_s hrows y 0) hob hal hab hsl hel hz hk hL ls (lv_sub hl [3, 4, 1, 0] rfl)
            · have hm2 : y % 16 = 0 := (nI_eq (by omega) (by decide)).mp (e2.trans nI_0.symm)
              refine lv_aload_n hx hb dM_table_21 rfl (lv_at hl 1 rfl) ?_
              refine lv_iload_n hx hb dM_table_22 rfl (lv_at hl 2 rfl) ?_
              refine lv_iload_n hx hb dM_table_23 rfl (lv_at hl 4 rfl) ?_
              refine lv_iload hx hb dM_table_24 (lv_at hl 0 rfl) ?_
              refine pw_call (F := mW mo sa ea) (va_runV (As := [.int (nI a), .int (nI y), .int (nI 16)]) (rest := []) ⟨hx, hb, hml, hown, htA⟩ (m_uniform l G cA mo ao af sa ea n fo th lw3 hg4 a y 16 ha (by decide) (by omega)) (cwV 3 htA (gd_V wd547 wd549 wd23 wd28 wd550) rfl rfl rfl (by decide +kernel) (by rw [hR]; exact ⟨Nat.le_of_ble_eq_true rfl, Nat.le_of_ble_eq_true rfl⟩)) (pw_V (ci := 4) (q := (RM, TM, 8)) hKN hob rfl ⟨hA.1, hob, hal⟩) rfl rfl hl.1 rfl (lv_room (Nat.le_of_ble_eq_true rfl)) dM_table_26 (by rw [hR]; exact ⟨Nat.le_of_ble_eq_true rfl, Nat.le_of_ble_eq_true rfl⟩)) hL (fun q h => Or.inl h) (fun v9 st9 t9 lc6 h0 ha9 hL hq9 => ?_)
              obtain ⟨hv9, ⟨lw7, hg8, hob⟩, hz1, hk1⟩ := hq9
              cases hv9
              rw [h0] at hz1 hk1
              generalize t9.heap = H5 at hob hz1 hk1 ⊢
              have hal := al_k hal (hk1 ao hA.1)
              have hab := ai_k hab (hk1 af hA.2.1)
              have hsl := ai_k hsl (hk1 sa hA.2.2.1)
              have hel := ai_k hel (hk1 ea hA.2.2.2.1)
              have hk : ∀ q, q ≠ mo → q ≠ sa → q ≠ ea → H5[q]? = s.heap[q]? := fun q h1 h2 h3 => (hk1 q h1).trans (hk q h1 h2 h3)
              have hz := hz1.trans hz
              have h63 := uni_63 (fun k => fo (64 * a + k)) y 16
              refine pw_ti (y := bI (uni 64 (fun k => fo (64 * a + k)) y 16)) (by rw [h63]) ?_
              refine lv_if_ne (tgt := 41) hx hb dM_table_29 (by decide) (fun u2 => ?_) (fun u2 => ?_)
              · have hu := bI_ne.mp u2
                have hgz : gz (uni 64 (fun k => fo (64 * a + k))) y = 2 := (by unfold gz; rw [if_neg n3, if_pos ⟨hm2, hu⟩])
                obtain ⟨f2, rfl⟩ : ∃ f2, fl = f2 + 1 := ⟨fl - 1, by omega⟩
                rw [grd_s hlt, hgz] at hT
                refine lv_aload_n hx hb dM_table_41 rfl (lv_at hl 1 rfl) ?_
                refine va_get (D := G) (ci := 4) (v := .ref sa) (C := RM) (T := TM) (N := 8) hx hb htA inM hown hK (ob_P hob) 0 rfl rfl 6 (by decide) (htA _ wd441) (fun _ h9 => h9) rfl dM_table_42 ?_
                refine lv_iload_n hx hb dM_table_45 rfl (lv_at hl 3 rfl) ?_
                refine lv_iload_n hx hb dM_table_46 rfl (lv_at hl 4 rfl) ?_
                refine pw_iast (F := mW mo sa ea) hx hb hK hsl 1 rfl (show D.length < 64 by omega) (by decide) hL (Or.inr (Or.inl rfl)) dM_table_47 (fun H6 lc6 hsl hz1 hk1 hL => ?_)
                have hob := ob_k hob (hk1 mo (Ne.symm hA.2.2.1))
                have hal := al_k hal (hk1 ao hA.2.2.2.2.1)
                have hab := ai_k hab (hk1 af hA.2.2.2.2.2.2.1)
                have hel := ai_k hel (hk1 ea (Ne.symm hA.2.2.2.2.2.2.2.2.1))
                have hk : ∀ q, q ≠ mo → q ≠ sa → q ≠ ea → H6[q]? = s.heap[q]? := fun q h1 h2 h3 => (hk1 q h2).trans (hk q h1 h2 h3)
                have hz := hz1.trans hz
                refine lv_aload_n hx hb dM_table_48 rfl (lv_at hl 1 rfl) ?_
                refine va_get (D := G) (ci := 4) (v := .ref ea) (C := RM) (T := TM) (N := 8) hx hb htA inM hown hK (ob_P hob) 0 rfl rfl 7 (by decide) (htA _ wd442) (fun _ h9 => h9) rfl dM_table_49 ?_
                refine lv_iload_n hx hb dM_table_52 rfl (lv_at hl 3 rfl) ?_
                refine lv_iload hx hb dM_table_53 (lv_at hl 0 rfl) ?_
                refine pw_iast (F := mW mo sa ea) hx hb hK hel 1 rfl (show D.length < 64 by omega) (by decide) hL (Or.inr (Or.inr rfl)) dM_table_55 (fun H7 lc7 hel hz1 hk1 hL => ?_)
                have hob := ob_k hob (hk1 mo (Ne.symm hA.2.2.2.1))
                have hal := al_k hal (hk1 ao hA.2.2.2.2.2.1)
                have hab := ai_k hab (hk1 af hA.2.2.2.2.2.2.2.1)
                have hsl := ai_k hsl (hk1 sa hA.2.2.2.2.2.2.2.2.1)
                have hk : ∀ q, q ≠ mo → q ≠ sa → q ≠ ea → H7[q]? = s.heap[q]? := fun q h1 h2 h3 => (hk1 q h3).trans (hk q h1 h2 h3)
                have hz := hz1.trans hz
                refine lv_iinc (v := nI (D.length + 1)) (lv' := [(2, .int (nI (D.length + 1))), (4, .int (nI 16)), (0, .ref mo), (1, .int (nI a)), (3, .int (nI y))]) hx hb dM_table_56 hl (k := 3) rfl (nI_1 D.length) (by decide) rfl (fun ls hl => ?_)
                refine lv_iload_n hx hb dM_table_59 rfl (lv_at hl 4 rfl) ?_
                refine lv_iload hx hb dM_table_60 (lv_at hl 1 rfl) ?_
                refine lv_iadd hx hb dM_table_62 ?_
                refine pw_ti (y := nI (y + 16)) (nI_add _ _) ?_
                refine lv_istore_n (lv' := [(3, .int (nI (y + 16))), (2, .int (nI (D.length + 1))), (4, .int (nI 16)), (0, .ref mo), (1, .int (nI a))]) hx hb dM_table_63 rfl hl (by decide) rfl (fun ls hl => ?_)
                refine lv_goto (tgt := 4) hx hb dM_table_64 (by decide) ?_
                have hlen : D.length + 1 = (D ++ [(y, 2)]).length := by rw [List.length_append]; rfl
                rw [hlen] at hl
                exact ih (y + 16) (D ++ [(y, 2)]) f2 H7 lc7 lw7 hg8 (upd fS D.length (nI y)) (upd fE D.length (nI 16)) (by omega) (by omega) (by rw [← hlen]; omega) (by omega) (by rw [hT, List.append_assoc]; rfl) (rowsOf_s hrows y 2) hob hal hab hsl hel hz hk hL ls (lv_sub hl [3, 4, 1, 0] rfl)
              · have hu := bI_eq.mp u2
                have n2 : ¬ (y % 16 = 0 ∧ (uni 64 (fun k => fo (64 * a + k))) y 16 = true) := fun q9 => by rw [hu] at q9; exact absurd q9.2 (by decide)
                refine lv_iload hx hb dM_table_32 (lv_at hl 0 rfl) ?_
                refine lv_iconst (v := nI 4) hx hb dM_table_34 (by decide) ?_
                refine lv_idiv hx hb dM_table_35 (by decide) ?_
                refine pw_ti (y := nI 4) (by decide) ?_
                refine lv_istore (lv' := [(4, .int (nI 4)), (0, .ref mo), (1, .int (nI a)), (2, .int (nI D.length)), (3, .int (nI y))]) hx hb dM_table_36 hl (by decide) rfl (fun ls hl => ?_)
                refine lv_goto (tgt := 14) hx hb dM_table_38 (by decide) ?_
                refine lv_iload_n hx hb dM_table_14 rfl (lv_at hl 4 rfl) ?_
                refine lv_iload hx hb dM_table_15 (lv_at hl 0 rfl) ?_
                refine lv_irem hx hb dM_table_17 (by decide) ?_
                refine pw_ti (y := nI (y % 4)) (pk_rem (by omega) (by decide) (by decide)) ?_
                refine lv_if_ne (tgt := 32) hx hb dM_table_18 (by decide) (fun e1 => ?_) (fun e1 => ?_)
                · have n1 : ¬ (y % 4 = 0 ∧ (uni 64 (fun k => fo (64 * a + k))) y 4 = true) := fun q9 => e1 (by rw [q9.1]; rfl)
                  refine lv_iload hx hb dM_table_32 (lv_at hl 0 rfl) ?_
                  refine lv_iconst (v := nI 4) hx hb dM_table_34 (by decide) ?_
                  refine lv_idiv hx hb dM_table_35 (by decide) ?_
                  refine pw_ti (y := nI 1) (by decide) ?_
                  refine lv_istore (lv' := [(4, .int (nI 1)), (0, .ref mo), (1, .int (nI a)), (2, .int (nI D.length)), (3, .int (nI y))]) hx hb dM_table_36 hl (by decide) rfl (fun ls hl => ?_)
                  refine lv_goto (tgt := 14) hx hb dM_table_38 (by decide) ?_
                  refine lv_iload_n hx hb dM_table_14 rfl (lv_at hl 4 rfl) ?_
                  refine lv_iload hx hb dM_table_15 (lv_at hl 0 rfl) ?_
                  refine lv_irem hx hb dM_table_17 (by decide) ?_
                  refine pw_ti (y := nI (y % 1)) (pk_rem (by omega) (by decide) (by decide)) ?_
                  have hm0 : y % 1 = 0 := Nat.mod_one y
                  rw [hm0]
                  refine lv_if_ne (tgt := 32) hx hb dM_table_18 (by decide) (fun c9 => absurd rfl c9) (fun _ => ?_)
                  refine lv_aload_n hx hb dM_table_21 rfl (lv_at hl 1 rfl) ?_
                  refine lv_iload_n hx hb dM_table_22 rfl (lv_at hl 2 rfl) ?_
                  refine lv_iload_n hx hb dM_table_23 rfl (lv_at hl 4 rfl) ?_
                  refine lv_iload hx hb dM_table_24 (lv_at hl 0 rfl) ?_
                  refine pw_call (F := mW mo sa ea) (va_runV (As := [.int (nI a), .int (nI y), .int (nI 1)]) (rest := []) ⟨hx, hb, hml, hown, htA⟩ (m_uniform l G cA mo ao af sa ea n fo th lw7 hg8 a y 1 ha (by decide) (by omega)) (cwV 3 htA (gd_V wd547 wd549 wd23 wd28 wd550) rfl rfl rfl (by decide +kernel) (by rw [hR]; exact ⟨Nat.le_of_ble_eq_true rfl, Nat.le_of_ble_eq_true rfl⟩)) (pw_V (ci := 4) (q := (RM, TM, 8)) hKN hob rfl ⟨hA.1, hob, hal⟩) rfl rfl hl.1 rfl (lv_room (Nat.le_of_ble_eq_true rfl)) dM_table_26 (by rw [hR]; exact ⟨Nat.le_of_ble_eq_true rfl, Nat.le_of_ble_eq_true rfl⟩)) hL (fun q h => Or.inl h) (fun v9 st9 t9 lc10 h0 ha9 hL hq9 => ?_)
                  obtain ⟨hv9, ⟨lw11, hg12, hob⟩, hz1, hk1⟩ := hq9
                  cases hv9
                  rw [h0] at hz1 hk1
                  generalize t9.heap = H9 at hob hz1 hk1 ⊢
                  have hal := al_k hal (hk1 ao hA.1)
                  have hab := ai_k hab (hk1 af hA.2.1)
                  have hsl := ai_k hsl (hk1 sa hA.2.2.1)
                  have hel := ai_k hel (hk1 ea hA.2.2.2.1)
                  have hk : ∀ q, q ≠ mo → q ≠ sa → q ≠ ea → H9[q]? = s.heap[q]? := fun q h1 h2 h3 => (hk1 q h1).trans (hk q h1 h2 h3)
                  have hz := hz1.trans hz
                  have h63 := uni_63 (fun k => fo (64 * a + k)) y 1
                  refine pw_ti (y := bI (uni 64 (fun k => fo (64 * a + k)) y 1)) (by rw [h63]) ?_
                  rw [uni_1]
                  refine lv_if_ne (tgt := 41) hx hb dM_table_29 (by decide) (fun _ => ?_) (fun c9 => absurd c9 (by decide))
                  have hgz : gz (uni 64 (fun k => fo (64 * a + k))) y = 0 := (by unfold gz; rw [if_neg n3, if_neg n2, if_neg n1])
                  obtain ⟨f2, rfl⟩ : ∃ f2, fl = f2 + 1 := ⟨fl - 1, by omega⟩
                  rw [grd_s hlt, hgz] at hT
                  refine lv_aload_n hx hb dM_table_41 rfl (lv_at hl 1 rfl) ?_
                  refine va_get (D := G) (ci := 4) (v := .ref sa) (C := RM) (T := TM) (N := 8) hx hb htA inM hown hK (ob_P hob) 0 rfl rfl 6 (by decide) (htA _ wd441) (fun _ h9 => h9) rfl dM_table_42 ?_
                  refine lv_iload_n hx hb dM_table_45 rfl (lv_at hl 3 rfl) ?_
                  refine lv_iload_n hx hb dM_table_46 rfl (lv_at hl 4 rfl) ?_
                  refine pw_iast (F := mW mo sa ea) hx hb hK hsl 1 rfl (show D.length < 64 by omega) (by decide) hL (Or.inr (Or.inl rfl)) dM_table_47 (fun H6 lc6 hsl hz1 hk1 hL => ?_)
                  have hob := ob_k hob (hk1 mo (Ne.symm hA.2.2.1))
                  have hal := al_k hal (hk1 ao hA.2.2.2.2.1)
                  have hab := ai_k hab (hk1 af hA.2.2.2.2.2.2.1)
                  have hel := ai_k hel (hk1 ea (Ne.symm hA.2.2.2.2.2.2.2.2.1))
                  have hk : ∀ q, q ≠ mo → q ≠ sa → q ≠ ea → H6[q]? = s.heap[q]? := fun q h1 h2 h3 => (hk1 q h2).trans (hk q h1 h2 h3)
                  have hz := hz1.trans hz
                  refine lv_aload_n hx hb dM_table_48 rfl (lv_at hl 1 rfl) ?_
                  refine va_get (D := G) (ci := 4) (v := .ref ea) (C := RM) (T := TM) (N := 8) hx hb htA inM hown hK (ob_P hob) 0 rfl rfl 7 (by decide) (htA _ wd442) (fun _ h9 => h9) rfl dM_table_49 ?_
                  refine lv_iload_n hx hb dM_table_52 rfl (lv_at hl 3 rfl) ?_
                  refine lv_iload hx hb dM_table_53 (lv_at hl 0 rfl) ?_
                  refine pw_iast (F := mW mo sa ea) hx hb hK hel 1 rfl (show D.length < 64 by omega) (by decide) hL (Or.inr (Or.inr rfl)) dM_table_55 (fun H7 lc7 hel hz1 hk1 hL => ?_)
                  have hob := ob_k hob (hk1 mo (Ne.symm hA.2.2.2.1))
                  have hal := al_k hal (hk1 ao hA.2.2.2.2.2.1)
                  have hab := ai_k hab (hk1 af hA.2.2.2.2.2.2.2.1)
                  have hsl := ai_k hsl (hk1 sa hA.2.2.2.2.2.2.2.2.1)
                  have hk : ∀ q, q ≠ mo → q ≠ sa → q ≠ ea → H7[q]? = s.heap[q]? := fun q h1 h2 h3 => (hk1 q h3).trans (hk q h1 h2 h3)
                  have hz := hz1.trans hz
                  refine lv_iinc (v := nI (D.length + 1)) (lv' := [(2, .int (nI (D.length + 1))), (4, .int (nI 1)), (0, .ref mo), (1, .int (nI a)), (3, .int (nI y))]) hx hb dM_table_56 hl (k := 3) rfl (nI_1 D.length) (by decide) rfl (fun ls hl => ?_)
                  refine lv_iload_n hx hb dM_table_59 rfl (lv_at hl 4 rfl) ?_
                  refine lv_iload hx hb dM_table_60 (lv_at hl 1 rfl) ?_
                  refine lv_iadd hx hb dM_table_62 ?_
                  refine pw_ti (y := nI (y + 1)) (nI_add _ _) ?_
                  refine lv_istore_n (lv' := [(3, .int (nI (y + 1))), (2, .int (nI (D.length + 1))), (4, .int (nI 1)), (0, .ref mo), (1, .int (nI a))]) hx hb dM_table_63 rfl hl (by decide) rfl (fun ls hl => ?_)
                  refine lv_goto (tgt := 4) hx hb dM_table_64 (by decide) ?_
                  have hlen : D.length + 1 = (D ++ [(y, 0)]).length := by rw [List.length_append]; rfl
                  rw [hlen] at hl
                  exact ih (y + 1) (D ++ [(y, 0)]) f2 H7 lc7 lw11 hg12 (upd fS D.length (nI y)) (upd fE D.length (nI 1)) (by omega) (by omega) (by rw [← hlen]; omega) (by omega) (by rw [hT, List.append_assoc]; rfl) (rowsOf_s hrows y 0) hob hal hab hsl hel hz hk hL ls (lv_sub hl [3, 4, 1, 0] rfl)
                · have hm1 : y % 4 = 0 := (nI_eq (by omega) (by decide)).mp (e1.trans nI_0.symm)
                  refine lv_aload_n hx hb dM_table_21 rfl (lv_at hl 1 rfl) ?_
                  refine lv_iload_n hx hb dM_table_22 rfl (lv_at hl 2 rfl) ?_
                  refine lv_iload_n hx hb dM_table_23 rfl (lv_at hl 4 rfl) ?_
                  refine lv_iload hx hb dM_table_24 (lv_at hl 0 rfl) ?_
                  refine pw_call (F := mW mo sa ea) (va_runV (As := [.int (nI a), .int (nI y), .int (nI 4)]) (rest := []) ⟨hx, hb, hml, hown, htA⟩ (m_uniform l G cA mo ao af sa ea n fo th lw7 hg8 a y 4 ha (by decide) (by omega)) (cwV 3 htA (gd_V wd547 wd549 wd23 wd28 wd550) rfl rfl rfl (by decide +kernel) (by rw [hR]; exact ⟨Nat.le_of_ble_eq_true rfl, Nat.le_of_ble_eq_true rfl⟩)) (pw_V (ci := 4) (q := (RM, TM, 8)) hKN hob rfl ⟨hA.1, hob, hal⟩) rfl rfl hl.1 rfl (lv_room (Nat.le_of_ble_eq_true rfl)) dM_table_26 (by rw [hR]; exact ⟨Nat.le_of_ble_eq_true rfl, Nat.le_of_ble_eq_true rfl⟩)) hL (fun q h => Or.inl h) (fun v9 st9 t9 lc10 h0 ha9 hL hq9 => ?_)
                  obtain ⟨hv9, ⟨lw11, hg12, hob⟩, hz1, hk1⟩ := hq9
                  cases hv9
                  rw [h0] at hz1 hk1
                  generalize t9.heap = H9 at hob hz1 hk1 ⊢
                  have hal := al_k hal (hk1 ao hA.1)
                  have hab := ai_k hab (hk1 af hA.2.1)
                  have hsl := ai_k hsl (hk1 sa hA.2.2.1)
                  have hel := ai_k hel (hk1 ea hA.2.2.2.1)
                  have hk : ∀ q, q ≠ mo → q ≠ sa → q ≠ ea → H9[q]? = s.heap[q]? := fun q h1 h2 h3 => (hk1 q h1).trans (hk q h1 h2 h3)
                  have hz := hz1.trans hz
                  have h63 := uni_63 (fun k => fo (64 * a + k)) y 4
                  refine pw_ti (y := bI (uni 64 (fun k => fo (64 * a + k)) y 4)) (by rw [h63]) ?_
                  refine lv_if_ne (tgt := 41) hx hb dM_table_29 (by decide) (fun u1 => ?_) (fun u1 => ?_)
                  · have hu := bI_ne.mp u1
                    have hgz : gz (uni 64 (fun k => fo (64 * a + k))) y = 1 := (by unfold gz; rw [if_neg n3, if_neg n2, if_pos ⟨hm1, hu⟩])
                    obtain ⟨f2, rfl⟩ : ∃ f2, fl = f2 + 1 := ⟨fl - 1, by omega⟩
                    rw [grd_s hlt, hgz] at hT
                    refine lv_aload_n hx hb dM_table_41 rfl (lv_at hl 1 rfl) ?_
                    refine va_get (D := G) (ci := 4) (v := .ref sa) (C := RM) (T := TM) (N := 8) hx hb htA inM hown hK (ob_P hob) 0 rfl rfl 6 (by decide) (htA _ wd441) (fun _ h9 => h9) rfl dM_table_42 ?_
                    refine lv_iload_n hx hb dM_table_45 rfl (lv_at hl 3 rfl) ?_
                    refine lv_iload_n hx hb dM_table_46 rfl (lv_at hl 4 rfl) ?_
                    refine pw_iast (F := mW mo sa ea) hx hb hK hsl 1 rfl (show D.length < 64 by omega) (by decide) hL (Or.inr (Or.inl rfl)) dM_table_47 (fun H6 lc6 hsl hz1 hk1 hL => ?_)
                    have hob := ob_k hob (hk1 mo (Ne.symm hA.2.2.1))
                    have hal := al_k hal (hk1 ao hA.2.2.2.2.1)
                    have hab := ai_k hab (hk1 af hA.2.2.2.2.2.2.1)
                    have hel := ai_k hel (hk1 ea (Ne.symm hA.2.2.2.2.2.2.2.2.1))
                    have hk : ∀ q, q ≠ mo → q ≠ sa → q ≠ ea → H6[q]? = s.heap[q]? := fun q h1 h2 h3 => (hk1 q h2).trans (hk q h1 h2 h3)
                    have hz := hz1.trans hz
                    refine lv_aload_n hx hb dM_table_48 rfl (lv_at hl 1 rfl) ?_
                    refine va_get (D := G) (ci := 4) (v := .ref ea) (C := RM) (T := TM) (N := 8) hx hb htA inM hown hK (ob_P hob) 0 rfl rfl 7 (by decide) (htA _ wd442) (fun _ h9 => h9) rfl dM_table_49 ?_
                    refine lv_iload_n hx hb dM_table_52 rfl (lv_at hl 3 rfl) ?_
                    refine lv_iload hx hb dM_table_53 (lv_at hl 0 rfl) ?_
                    refine pw_iast (F := mW mo sa ea) hx hb hK hel 1 rfl (show D.length < 64 by omega) (by decide) hL (Or.inr (Or.inr rfl)) dM_table_55 (fun H7 lc7 hel hz1 hk1 hL => ?_)
                    have hob := ob_k hob (hk1 mo (Ne.symm hA.2.2.2.1))
                    have hal := al_k hal (hk1 ao hA.2.2.2.2.2.1)
                    have hab := ai_k hab (hk1 af hA.2.2.2.2.2.2.2.1)
                    have hsl := ai_k hsl (hk1 sa hA.2.2.2.2.2.2.2.2.1)
                    have hk : ∀ q, q ≠ mo → q ≠ sa → q ≠ ea → H7[q]? = s.heap[q]? := fun q h1 h2 h3 => (hk1 q h3).trans (hk q h1 h2 h3)
                    have hz := hz1.trans hz
                    refine lv_iinc (v := nI (D.length + 1)) (lv' := [(2, .int (nI (D.length + 1))), (4, .int (nI 4)), (0, .ref mo), (1, .int (nI a)), (3, .int (nI y))]) hx hb dM_table_56 hl (k := 3) rfl (nI_1 D.length) (by decide) rfl (fun ls hl => ?_)
                    refine lv_iload_n hx hb dM_table_59 rfl (lv_at hl 4 rfl) ?_
                    refine lv_iload hx hb dM_table_60 (lv_at hl 1 rfl) ?_
                    refine lv_iadd hx hb dM_table_62 ?_
                    refine pw_ti (y := nI (y + 4)) (nI_add _ _) ?_
                    refine lv_istore_n (lv' := [(3, .int (nI (y + 4))), (2, .int (nI (D.length + 1))), (4, .int (nI 4)), (0, .ref mo), (1, .int (nI a))]) hx hb dM_table_63 rfl hl (by decide) rfl (fun ls hl => ?_)
                    refine lv_goto (tgt := 4) hx hb dM_table_64 (by decide) ?_
                    have hlen : D.length + 1 = (D ++ [(y, 1)]).length := by rw [List.length_append]; rfl
                    rw [hlen] at hl
                    exact ih (y + 4) (D ++ [(y, 1)]) f2 H7 lc7 lw11 hg12 (upd fS D.length (nI y)) (upd fE D.length (nI 4)) (by omega) (by omega) (by rw [← hlen]; omega) (by omega) (by rw [hT, List.append_assoc]; rfl) (rowsOf_s hrows y 1) hob hal hab hsl hel hz hk hL ls (lv_sub hl [3, 4, 1, 0] rfl)
                  · have hu := bI_eq.mp u1
                    have n1 : ¬ (y % 4 = 0 ∧ (uni 64 (fun k => fo (64 * a + k))) y 4 = true) := fun q9 => by rw [hu] at q9; exact absurd q9.2 (by decide)
                    refine lv_iload hx hb dM_table_32 (lv_at hl 0 rfl) ?_
                    refine lv_iconst (v := nI 4) hx hb dM_table_34 (by decide) ?_
                    refine lv_idiv hx hb dM_table_35 (by decide) ?_
                    refine pw_ti (y := nI 1) (by decide) ?_
                    refine lv_istore (lv' := [(4, .int (nI 1)), (0, .ref mo), (1, .int (nI a)), (2, .int (nI D.length)), (3, .int (nI y))]) hx hb dM_table_36 hl (by decide) rfl (fun ls hl => ?_)
                    refine lv_goto (tgt := 14) hx hb dM_table_38 (by decide) ?_
                    refine lv_iload_n hx hb dM_table_14 rfl (lv_at hl 4 rfl) ?_
                    refine lv_iload hx hb dM_table_15 (lv_at hl 0 rfl) ?_
                    refine lv_irem hx hb dM_table_17 (by decide) ?_
                    refine pw_ti (y := nI (y % 1)) (pk_rem (by omega) (by decide) (by decide)) ?_
                    have hm0 : y % 1 = 0 := Nat.mod_one y
                    rw [hm0]
                    refine lv_if_ne (tgt := 32) hx hb dM_table_18 (by decide) (fun c9 => absurd rfl c9) (fun _ => ?_)
                    refine lv_aload_n hx hb dM_table_21 rfl (lv_at hl 1 rfl) ?_
                    refine lv_iload_n hx hb dM_table_22 rfl (lv_at hl 2 rfl) ?_
                    refine lv_iload_n hx hb dM_table_23 rfl (lv_at hl 4 rfl) ?_
                    refine lv_iload hx hb dM_table_24 (lv_at hl 0 rfl) ?_
                    refine pw_call (F := mW mo sa ea) (va_runV (As := [.int (nI a), .int (nI y), .int (nI 1)]) (rest := []) ⟨hx, hb, hml, hown, htA⟩ (m_uniform l G cA mo ao af sa ea n fo th lw11 hg12 a y 1 ha (by decide) (by omega)) (cwV 3 htA (gd_V wd547 wd549 wd23 wd28 wd550) rfl rfl rfl (by decide +kernel) (by rw [hR]; exact ⟨Nat.le_of_ble_eq_true rfl, Nat.le_of_ble_eq_true rfl⟩)) (pw_V (ci := 4) (q := (RM, TM, 8)) hKN hob rfl ⟨hA.1, hob, hal⟩) rfl rfl hl.1 rfl (lv_room (Nat.le_of_ble_eq_true rfl)) dM_table_26 (by rw [hR]; exact ⟨Nat.le_of_ble_eq_true rfl, Nat.le_of_ble_eq_true rfl⟩)) hL (fun q h => Or.inl h) (fun v9 st9 t9 lc14 h0 ha9 hL hq9 => ?_)
                    obtain ⟨hv9, ⟨lw15, hg16, hob⟩, hz1, hk1⟩ := hq9
                    cases hv9
                    rw [h0] at hz1 hk1
                    generalize t9.heap = H13 at hob hz1 hk1 ⊢
                    have hal := al_k hal (hk1 ao hA.1)
                    have hab := ai_k hab (hk1 af hA.2.1)
                    have hsl := ai_k hsl (hk1 sa hA.2.2.1)
                    have hel := ai_k hel (hk1 ea hA.2.2.2.1)
                    have hk : ∀ q, q ≠ mo → q ≠ sa → q ≠ ea → H13[q]? = s.heap[q]? := fun q h1 h2 h3 => (hk1 q h1).trans (hk q h1 h2 h3)
                    have hz := hz1.trans hz
                    have h63 := uni_63 (fun k => fo (64 * a + k)) y 1
                    refine pw_ti (y := bI (uni 64 (fun k => fo (64 * a + k)) y 1)) (by rw [h63]) ?_
                    rw [uni_1]
                    refine lv_if_ne (tgt := 41) hx hb dM_table_29 (by decide) (fun _ => ?_) (fun c9 => absurd c9 (by decide))
                    have hgz : gz (uni 64 (fun k => fo (64 * a + k))) y = 0 := (by unfold gz; rw [if_neg n3, if_neg n2, if_neg n1])
                    obtain ⟨f2, rfl⟩ : ∃ f2, fl = f2 + 1 := ⟨fl - 1, by omega⟩
                    rw [grd_s hlt, hgz] at hT
                    refine lv_aload_n hx hb dM_table_41 rfl (lv_at hl 1 rfl) ?_
                    refine va_get (D := G) (ci := 4) (v := .ref sa) (C := RM) (T := TM) (N := 8) hx hb htA inM hown hK (ob_P hob) 0 rfl rfl 6 (by decide) (htA _ wd441) (fun _ h9 => h9) rfl dM_table_42 ?_
                    refine lv_iload_n hx hb dM_table_45 rfl (lv_at hl 3 rfl) ?_
                    refine lv_iload_n hx hb dM_table_46 rfl (lv_at hl 4 rfl) ?_
                    refine pw_iast (F := mW mo sa ea) hx hb hK hsl 1 rfl (show D.length < 64 by omega) (by decide) hL (Or.inr (Or.inl rfl)) dM_table_47 (fun H6 lc6 hsl hz1 hk1 hL => ?_)
                    have hob := ob_k hob (hk1 mo (Ne.symm hA.2.2.1))
                    have hal := al_k hal (hk1 ao hA.2.2.2.2.1)
                    have hab := ai_k hab (hk1 af hA.2.2.2.2.2.2.1)
                    have hel := ai_k hel (hk1 ea (Ne.symm hA.2.2.2.2.2.2.2.2.1))
                    have hk : ∀ q, q ≠ mo → q ≠ sa → q ≠ ea → H6[q]? = s.heap[q]? := fun q h1 h2 h3 => (hk1 q h2).trans (hk q h1 h2 h3)
                    have hz := hz1.trans hz
                    refine lv_aload_n hx hb dM_table_48 rfl (lv_at hl 1 rfl) ?_
                    refine va_get (D := G) (ci := 4) (v := .ref ea) (C := RM) (T := TM) (N := 8) hx hb htA inM hown hK (ob_P hob) 0 rfl rfl 7 (by decide) (htA _ wd442) (fun _ h9 => h9) rfl dM_table_49 ?_
                    refine lv_iload_n hx hb dM_table_52 rfl (lv_at hl 3 rfl) ?_
                    refine lv_iload hx hb dM_table_53 (lv_at hl 0 rfl) ?_
                    refine pw_iast (F := mW mo sa ea) hx hb hK hel 1 rfl (show D.length < 64 by omega) (by decide) hL (Or.inr (Or.inr rfl)) dM_table_55 (fun H7 lc7 hel hz1 hk1 hL => ?_)
                    have hob := ob_k hob (hk1 mo (Ne.symm hA.2.2.2.1))
                    have hal := al_k hal (hk1 ao hA.2.2.2.2.2.1)
                    have hab := ai_k hab (hk1 af hA.2.2.2.2.2.2.2.1)
                    have hsl := ai_k hsl (hk1 sa hA.2.2.2.2.2.2.2.2.1)
                    have hk : ∀ q, q ≠ mo → q ≠ sa → q ≠ ea → H7[q]? = s.heap[q]? := fun q h1 h2 h3 => (hk1 q h3).trans (hk q h1 h2 h3)
                    have hz := hz1.trans hz
                    refine lv_iinc (v := nI (D.length + 1)) (lv' := [(2, .int (nI (D.length + 1))), (4, .int (nI 1)), (0, .ref mo), (1, .int (nI a)), (3, .int (nI y))]) hx hb dM_table_56 hl (k := 3) rfl (nI_1 D.length) (by decide) rfl (fun ls hl => ?_)
                    refine lv_iload_n hx hb dM_table_59 rfl (lv_at hl 4 rfl) ?_
                    refine lv_iload hx hb dM_table_60 (lv_at hl 1 rfl) ?_
                    refine lv_iadd hx hb dM_table_62 ?_
                    refine pw_ti (y := nI (y + 1)) (nI_add _ _) ?_
                    refine lv_istore_n (lv' := [(3, .int (nI (y + 1))), (2, .int (nI (D.length + 1))), (4, .int (nI 1)), (0, .ref mo), (1, .int (nI a))]) hx hb dM_table_63 rfl hl (by decide) rfl (fun ls hl => ?_)
                    refine lv_goto (tgt := 4) hx hb dM_table_64 (by decide) ?_
                    have hlen : D.length + 1 = (D ++ [(y, 0)]).length := by rw [List.length_append]; rfl
                    rw [hlen] at hl
                    exact ih (y + 1) (D ++ [(y, 0)]) f2 H7 lc7 lw15 hg16 (upd fS D.length (nI y)) (upd fE D.length (nI 1)) (by omega) (by omega) (by rw [← hlen]; omega) (by omega) (by rw [hT, List.append_assoc]; rfl) (rowsOf_s hrows y 0) hob hal hab hsl hel hz hk hL ls (lv_sub hl [3, 4, 1, 0] rfl)
  exact lp 64 0 [] (64 + (tbl (fun k => fo (64 * a + k))).length) s.heap [] lw hg fS fE (by omega) (by omega) (by decide) (by omega) (by rw [List.nil_append]; exact (gr3 (ok := (uni 64 (fun k => fo (64 * a + k)))) (n := 64)).symm) rowsOf_0 hob hal hab hsl hel rfl (fun _ _ _ _ => rfl) (fun _ h => by cases h) ls (lv_sub hl [2, 3, 1, 0] rfl)
end
section
def ruR (f : Nat → Int64) (row : Nat × Nat) (u : Nat) (r : Int32) : Prop := (u < 3 ∧ ((row.2 < 3 - u ∧ r = nI (vl row.1 u)) ∨ (3 - u ≤ row.2 ∧ r = -1))) ∨ (u = 3 ∧ r = nI (cd (f row.1) 64))
theorem ruR_one {f : Nat → Int64} {row : Nat × Nat} {u : Nat} {r t : Int32} (h1 : ruR f row u r) (h2 : ruR f row u t) : r = t := by
  rcases h1 with ⟨a1, a2⟩ | ⟨a1, a2⟩ <;> rcases h2 with ⟨b1, b2⟩ | ⟨b1, b2⟩
  · rcases a2 with ⟨a2, a3⟩ | ⟨a2, a3⟩ <;> rcases b2 with ⟨b2, b3⟩ | ⟨b2, b3⟩
    · rw [a3, b3]
    · omega
    · omega
    · rw [a3, b3]
  · omega
  · omega
  · rw [a2, b2]
theorem p64 : ∀ d, d ≤ 3 → (64 ≤ 4 ^ d ↔ 3 ≤ d) := by decide +kernel
theorem p16 : ∀ d, d ≤ 3 → (16 ≤ 4 ^ d ↔ 2 ≤ d) := by decide +kernel
theorem p4 : ∀ d, d ≤ 3 → (4 ≤ 4 ^ d ↔ 1 ≤ d) := by decide +kernel
theorem pmax : ∀ d, d ≤ 3 → 4 ^ d ≤ 64 := by decide +kernel
theorem reg_len (ok : Nat → Nat → Bool) : ∀ d x, (reg ok d x).length ≤ 4 ^ d ∧ 0 < (reg ok d x).length := by
  intro d
  induction d with
  | zero => intro x; exact ⟨Nat.le_refl _, Nat.succ_pos _⟩
  | succ d ih =>
    intro x
    show (if ok x (4 ^ (d + 1)) = true then [(x, d + 1)] else reg ok d x ++ (reg ok d (x + 4 ^ d) ++ (reg ok d (x + 2 * 4 ^ d) ++ reg ok d (x + 3 * 4 ^ d)))).length ≤ 4 ^ (d + 1) ∧ 0 < (if ok x (4 ^ (d + 1)) = true then [(x, d + 1)] else reg ok d x ++ (reg ok d (x + 4 ^ d) ++ (reg ok d (x + 2 * 4 ^ d) ++ reg ok d (x + 3 * 4 ^ d)))).length
    have hp : 0 < 4 ^ d := Nat.pow_pos (by decide)
    rw [Nat.pow_succ]
    by_cases c : ok x (4 ^ d * 4) = true
    · rw [if_pos c, List.length_singleton]
      omega
    · rw [if_neg c, List.length_append, List.length_append, List.length_append]
      have h1 := ih x
      have h2 := ih (x + 4 ^ d)
      have h3 := ih (x + 2 * 4 ^ d)
      have h4 := ih (x + 3 * 4 ^ d)
      omega
theorem tbl_len (f : Nat → Int64) : (tbl f).length ≤ 64 := (reg_len (uni 64 f) 3 0).1
end
section
set_option maxRecDepth 100000 in
set_option maxHeartbeats 4000000 in
theorem m_rules (l : Launch) (G : va_G) (cA : Nat → ClassId) (mo ao af sa ea n : Nat) (fo : Nat → Int64) (fb : Nat → Int32) (v : Int32) : Met l yM_rules wsM_rules ({ frames := 5, cells := 0, slots := 0, locals := 122 }) (PH G cA [.ref mo, .int v] (fun H => (mA mo ao af sa ea ∧ n ≤ 50 ∧ ∃ th, mV G cA mo ao af sa ea n fo fb th H))) (mI G cA mo ao af sa ea n fo fb (fun r th => (inb n v = false ∧ th = nI 1) ∨ (∃ a, a < n ∧ v = nI a ∧ th = nI 0 ∧ r = nI (tbl (fun k => fo (64 * a + k))).length))) 0 0 (mW mo sa ea) := by
  refine Met.ofW (cc := cM_rules) (maxL := 2) (ret := (some .int)) (by decide) rfl ?_
  intro p e s m args below meth c s₁ B hml hv
  obtain ⟨hav, hKN, hA, hn, th0, lw, hg, fS, fE, hob, hal, hab, hsl, hel⟩ := hv
  have hK := hKN.1
  have hx := B.exec
  have hb := B.bytes
  have hrt := B.returns
  have htA : ∀ w ∈ ALL, w.before args s = true := fun w h => atoms_spec (ws := wsM_rules) B.pre w (List.mem_cons_of_mem _ h)
  have hown : s.vm.findClass RM = some m.cls := findClass_of_methodNamed B.named
  have hlocks := B.notSynchronized
  refine pw_nm (fun R Q hR hQ => ?_)
  refine pw_entry (vs := [.ref mo, .int v]) hav (Nat.le_of_ble_eq_true rfl) (fun ls hl => ?_)
  have hl : lv_has ls 2 [(0, .ref mo), (1, .int v)] := hl
  have hz : s.heap.size = s.heap.size := rfl
  have hk : ∀ q, q ≠ mo → q ≠ sa → q ≠ ea → s.heap[q]? = s.heap[q]? := fun _ _ _ _ => rfl
  have hL : ∀ z ∈ ([] : List Loc), mW mo sa ea z.base := fun _ h => by cases h
  refine lv_aload_n hx hb dM_rules_0 rfl (lv_at hl 0 rfl) ?_
  refine lv_iconst (v := nI 0) hx hb dM_rules_1 (by decide) ?_
  refine pw_put (ci := 4) (C := RM) (T := TM) (N := 8) (ty := .int) (F := mW mo sa ea) hx hb htA inM tyM tyM_ok nmM hown hK hob rfl 0 (by decide) (htA _ wd435) (fun _ h9 => h9) rfl (by decide +kernel) rfl rfl (Nat.le_of_ble_eq_true rfl) hL (Or.inl rfl) dM_rules_2 (fun H1 lc2 hob1 hz1 hk1 hL => ?_)
  have hob : ob G 4 mo (mF (nI 0) ao af n lw hg sa ea) H1 := hob1
  have hal := al_k hal (hk1 ao hA.1)
  have hab := ai_k hab (hk1 af hA.2.1)
  have hsl := ai_k hsl (hk1 sa hA.2.2.1)
  have hel := ai_k hel (hk1 ea hA.2.2.2.1)
  have hk : ∀ q, q ≠ mo → q ≠ sa → q ≠ ea → H1[q]? = s.heap[q]? := fun q h1 h2 h3 => (hk1 q h1).trans (hk q h1 h2 h3)
  have hz := hz1.trans hz
  refine lv_aload_n hx hb dM_rules_5 rfl (lv_at hl 0 rfl) ?_
  refine lv_iload_n hx hb dM_rules_6 rfl (lv_at hl 1 rfl) ?_
  refine vp_callSi (va_Run.run (va_runV (As := [.int v]) (rest := []) ⟨hx, hb, hml, hown, htA⟩ (m_made l G cA mo n (mF (nI 0) ao af n lw hg sa ea) v rfl (by omega)) (cwV 1 htA (gd_V wd476 wd478 wd15 wd28 wd479) rfl rfl rfl (by decide +kernel) (by rw [hR]; exact ⟨Nat.le_of_ble_eq_true rfl, Nat.le_of_ble_eq_true rfl⟩)) (pw_V (ci := 4) (q := (RM, TM, 8)) hKN hob rfl hob) rfl rfl hl.1 rfl (lv_room (Nat.le_of_ble_eq_true rfl)) dM_rules_7 (by rw [hR]; exact ⟨Nat.le_of_ble_eq_true rfl, Nat.le_of_ble_eq_true rfl⟩))) (fun r3 hr3 => ?_)
  subst hr3
  refine lv_if_eq (tgt := 21) hx hb dM_rules_10 (by decide) (fun c1 => ?_) (fun c1 => ?_)
  · have hq := bI_eq.mp c1
    refine lv_aload_n hx hb dM_rules_21 rfl (lv_at hl 0 rfl) ?_
    refine lv_iconst (v := nI 1) hx hb dM_rules_22 (by decide) ?_
    refine pw_call (F := mW mo sa ea) (va_runV (As := [.int (nI 1)]) (rest := []) ⟨hx, hb, hml, hown, htA⟩ (m_raise l G cA mo (mF (nI 0) ao af n lw hg sa ea) (nI 1)) (cwV 1 htA (gd_V wd480 wd482 wd16 wd28 wd483) rfl rfl rfl (by decide +kernel) (by rw [hR]; exact ⟨Nat.le_of_ble_eq_true rfl, Nat.le_of_ble_eq_true rfl⟩)) (pw_V (ci := 4) (q := (RM, TM, 8)) hKN hob rfl ⟨hob, Nat.zero_lt_succ _⟩) rfl rfl hl.1 rfl (lv_room (Nat.le_of_ble_eq_true rfl)) dM_rules_23 (by rw [hR]; exact ⟨Nat.le_of_ble_eq_true rfl, Nat.le_of_ble_eq_true rfl⟩)) hL (fun q h => Or.inl h) (fun v9 st9 t9 lc5 h0 ha9 hL hq9 => ?_)
    obtain ⟨hv9, hob1, hz1, hk1⟩ := hq9
    cases hv9
    rw [h0] at hz1 hk1
    generalize t9.heap = H4 at hob1 hz1 hk1 ⊢
    have hob : ob G 4 mo (mF (nI 1) ao af n lw hg sa ea) H4 := hob1
    have hal := al_k hal (hk1 ao hA.1)
    have hab := ai_k hab (hk1 af hA.2.1)
    have hsl := ai_k hsl (hk1 sa hA.2.2.1)
    have hel := ai_k hel (hk1 ea hA.2.2.2.1)
    have hk : ∀ q, q ≠ mo → q ≠ sa → q ≠ ea → H4[q]? = s.heap[q]? := fun q h1 h2 h3 => (hk1 q h1).trans (hk q h1 h2 h3)
    have hz := hz1.trans hz
    rw [hQ]
    exact W.iret (v := 0) hx hb hrt (fun t ht hW => ⟨_, (nI 1), rfl, (Or.inl ⟨hq, rfl⟩), ⟨lw, hg, fS, fE, by rw [ht]; exact ⟨hob, hal, hab, hsl, hel⟩⟩, by rw [ht]; exact hz, by rw [ht]; exact hk⟩) hL dM_rules_26
  · obtain ⟨a, ha, rfl⟩ := inb_t (by omega) (bI_ne.mp c1)
    refine lv_aload_n hx hb dM_rules_13 rfl (lv_at hl 0 rfl) ?_
    refine lv_iload_n hx hb dM_rules_14 rfl (lv_at hl 1 rfl) ?_
    refine pw_call (F := mW mo sa ea) (va_runV (As := [.int (nI a)]) (rest := []) ⟨hx, hb, hml, hown, htA⟩ (m_table l G cA mo ao af sa ea n fo fb (nI 0) a (by omega)) (cwV 1 htA (gd_V wd543 wd545 wd22 wd28 wd546) rfl rfl rfl (by decide +kernel) (by rw [hR]; exact ⟨Nat.le_of_ble_eq_true rfl, Nat.le_of_ble_eq_true rfl⟩)) (pw_V (ci := 4) (q := (RM, TM, 8)) hKN hob rfl ⟨hA, lw, hg, fS, fE, hob, hal, hab, hsl, hel⟩) rfl rfl hl.1 rfl (lv_room (Nat.le_of_ble_eq_true rfl)) dM_rules_15 (by rw [hR]; exact ⟨Nat.le_of_ble_eq_true rfl, Nat.le_of_ble_eq_true rfl⟩)) hL (fun q h => h) (fun v9 st9 t9 lc5 h0 ha9 hL hq9 => ?_)
    obtain ⟨hv9, ⟨lw2, hg2, fS2, fE2, ⟨hob, hal, hab, hsl, hel⟩, hrows⟩, hz1, hk1⟩ := hq9
    cases hv9
    rw [h0] at hz1 hk1
    generalize t9.heap = H4 at hob hal hab hsl hel hz1 hk1 ⊢
    have hk : ∀ q, q ≠ mo → q ≠ sa → q ≠ ea → H4[q]? = s.heap[q]? := fun q h1 h2 h3 => (hk1 q h1 h2 h3).trans (hk q h1 h2 h3)
    have hz := hz1.trans hz
    have hlen : (tbl (fun k => fo (64 * a + k))).length ≤ 64 := tbl_len (fun k => fo (64 * a + k))
    refine lv_goto (tgt := 26) hx hb dM_rules_18 (by decide) ?_
    rw [hQ]
    exact W.iret (v := nI (tbl (fun k => fo (64 * a + k))).length) hx hb hrt (fun t ht hW => ⟨_, (nI 0), rfl, (Or.inr ⟨a, ha, rfl, rfl, rfl⟩), ⟨lw2, hg2, fS2, fE2, by rw [ht]; exact ⟨hob, hal, hab, hsl, hel⟩⟩, by rw [ht]; exact hz, by rw [ht]; exact hk⟩) hL dM_rules_26

set_option maxRecDepth 100000 in
set_option maxHeartbeats 4000000 in
theorem m_rule (l : Launch) (G : va_G) (cA : Nat → ClassId) (mo ao af sa ea n : Nat) (fo : Nat → Int64) (fb : Nat → Int32) (v v2 v3 : Int32) : Met l yM_rule wsM_rule ({ frames := 5, cells := 0, slots := 0, locals := 122 }) (PH G cA [.ref mo, .int v, .int v2, .int v3] (fun H => (mA mo ao af sa ea ∧ n ≤ 50 ∧ ∃ th, mV G cA mo ao af sa ea n fo fb th H))) (mI G cA mo ao af sa ea n fo fb (fun r th => (inb n v = false ∧ th = nI 1) ∨ (∃ a, a < n ∧ v = nI a ∧ ((inb (tbl (fun k => fo (64 * a + k))).length v2 = false ∧ th = nI 1) ∨ (∃ j, j < (tbl (fun k => fo (64 * a + k))).length ∧ v2 = nI j ∧ ((inb 4 v3 = false ∧ th = nI 2) ∨ (∃ u, u < 4 ∧ v3 = nI u ∧ th = nI 0 ∧ ruR (fun k => fo (64 * a + k)) ((tbl (fun k => fo (64 * a + k))).getD j (0, 0)) u r))))))) 0 0 (mW mo sa ea) := by
  refine Met.ofW (cc := cM_rule) (maxL := 5) (ret := (some .int)) (by decide) rfl ?_
  intro p e s m args below meth c s₁ B hml hv
  obtain ⟨hav, hKN, hA, hn, th0, lw, hg, fS, fE, hob, hal, hab, hsl, hel⟩ := hv
  have hK := hKN.1
  have hx := B.exec
  have hb := B.bytes
  have hrt := B.returns
  have htA : ∀ w ∈ ALL, w.before args s = true := fun w h => atoms_spec (ws := wsM_rule) B.pre w (List.mem_cons_of_mem _ h)
  have hown : s.vm.findClass RM = some m.cls := findClass_of_methodNamed B.named
  have hlocks := B.notSynchronized
  refine pw_nm (fun R Q hR hQ => ?_)
  refine pw_entry (vs := [.ref mo, .int v, .int v2, .int v3]) hav (Nat.le_of_ble_eq_true rfl) (fun ls hl => ?_)
  have hl : lv_has ls 5 [(0, .ref mo), (1, .int v), (2, .int v2), (3, .int v3)] := hl
  have hz : s.heap.size = s.heap.size := rfl
  have hk : ∀ q, q ≠ mo → q ≠ sa → q ≠ ea → s.heap[q]? = s.heap[q]? := fun _ _ _ _ => rfl
  have hL : ∀ z ∈ ([] : List Loc), mW mo sa ea z.base := fun _ h => by cases h
  refine lv_aload_n hx hb dM_rule_0 rfl (lv_at hl 0 rfl) ?_
  refine lv_iconst (v := nI 0) hx hb dM_rule_1 (by decide) ?_
  refine pw_put (ci := 4) (C := RM) (T := TM) (N := 8) (ty := .int) (F := mW mo sa ea) hx hb htA inM tyM tyM_ok nmM hown hK hob rfl 0 (by decide) (htA _ wd435) (fun _ h9 => h9) rfl (by decide +kernel) rfl rfl (Nat.le_of_ble_eq_true rfl) hL (Or.inl rfl) dM_rule_2 (fun H1 lc2 hob1 hz1 hk1 hL => ?_)
  have hob : ob G 4 mo (mF (nI 0) ao af n lw hg sa ea) H1 := hob1
  have hal := al_k hal (hk1 ao hA.1)
  have hab := ai_k hab (hk1 af hA.2.1)
  have hsl := ai_k hsl (hk1 sa hA.2.2.1)
  have hel := ai_k hel (hk1 ea hA.2.2.2.1)
  have hk : ∀ q, q ≠ mo → q ≠ sa → q ≠ ea → H1[q]? = s.heap[q]? := fun q h1 h2 h3 => (hk1 q h1).trans (hk q h1 h2 h3)
  have hz := hz1.trans hz
  refine lv_aload_n hx hb dM_rule_5 rfl (lv_at hl 0 rfl) ?_
  refine lv_iload_n hx hb dM_rule_6 rfl (lv_at hl 1 rfl) ?_
  refine vp_callSi (va_Run.run (va_runV (As := [.int v]) (rest := []) ⟨hx, hb, hml, hown, htA⟩ (m_made l G cA mo n (mF (nI 0) ao af n lw hg sa ea) v rfl (by omega)) (cwV 1 htA (gd_V wd476 wd478 wd15 wd28 wd479) rfl rfl rfl (by decide +kernel) (by rw [hR]; exact ⟨Nat.le_of_ble_eq_true rfl, Nat.le_of_ble_eq_true rfl⟩)) (pw_V (ci := 4) (q := (RM, TM, 8)) hKN hob rfl hob) rfl rfl hl.1 rfl (lv_room (Nat.le_of_ble_eq_true rfl)) dM_rule_7 (by rw [hR]; exact ⟨Nat.le_of_ble_eq_true rfl, Nat.le_of_ble_eq_true rfl⟩))) (fun r3 hr3 => ?_)
  subst hr3
  refine lv_if_eq (tgt := 26) hx hb dM_rule_10 (by decide) (fun c1 => ?_) (fun c1 => ?_)
  · have hq := bI_eq.mp c1
    refine lv_aload_n hx hb dM_rule_26 rfl (lv_at hl 0 rfl) ?_
    refine lv_iconst (v := nI 1) hx hb dM_rule_27 (by decide) ?_
    refine pw_call (F := mW mo sa ea) (va_runV (As := [.int (nI 1)]) (rest := []) ⟨hx, hb, hml, hown, htA⟩ (m_raise l G cA mo (mF (nI 0) ao af n lw hg sa ea) (nI 1)) (cwV 1 htA (gd_V wd480 wd482 wd16 wd28 wd483) rfl rfl rfl (by decide +kernel) (by rw [hR]; exact ⟨Nat.le_of_ble_eq_true rfl, Nat.le_of_ble_eq_true rfl⟩)) (pw_V (ci := 4) (q := (RM, TM, 8)) hKN hob rfl ⟨hob, Nat.zero_lt_succ _⟩) rfl rfl hl.1 rfl (lv_room (Nat.le_of_ble_eq_true rfl)) dM_rule_28 (by rw [hR]; exact ⟨Nat.le_of_ble_eq_true rfl, Nat.le_of_ble_eq_true rfl⟩)) hL (fun q h => Or.inl h) (fun v9 st9 t9 lc5 h0 ha9 hL hq9 => ?_)
    obtain ⟨hv9, hob1, hz1, hk1⟩ := hq9
    cases hv9
    rw [h0] at hz1 hk1
    generalize t9.heap = H4 at hob1 hz1 hk1 ⊢
    have hob : ob G 4 mo (mF (nI 1) ao af n lw hg sa ea) H4 := hob1
    have hal := al_k hal (hk1 ao hA.1)
    have hab := ai_k hab (hk1 af hA.2.1)
    have hsl := ai_k hsl (hk1 sa hA.2.2.1)
    have hel := ai_k hel (hk1 ea hA.2.2.2.1)
    have hk : ∀ q, q ≠ mo → q ≠ sa → q ≠ ea → H4[q]? = s.heap[q]? := fun q h1 h2 h3 => (hk1 q h1).trans (hk q h1 h2 h3)
    have hz := hz1.trans hz
    rw [hQ]
    exact W.iret (v := 0) hx hb hrt (fun t ht hW => ⟨_, (nI 1), rfl, (Or.inl ⟨hq, rfl⟩), ⟨lw, hg, fS, fE, by rw [ht]; exact ⟨hob, hal, hab, hsl, hel⟩⟩, by rw [ht]; exact hz, by rw [ht]; exact hk⟩) hL dM_rule_31
  · obtain ⟨a, ha, rfl⟩ := inb_t (by omega) (bI_ne.mp c1)
    refine lv_iload_n hx hb dM_rule_13 rfl (lv_at hl 2 rfl) ?_
    refine lv_if_lt (tgt := 26) hx hb dM_rule_14 (by decide) (fun c2 => ?_) (fun c2 => ?_)
    · refine lv_aload_n hx hb dM_rule_26 rfl (lv_at hl 0 rfl) ?_
      refine lv_iconst (v := nI 1) hx hb dM_rule_27 (by decide) ?_
      refine pw_call (F := mW mo sa ea) (va_runV (As := [.int (nI 1)]) (rest := []) ⟨hx, hb, hml, hown, htA⟩ (m_raise l G cA mo (mF (nI 0) ao af n lw hg sa ea) (nI 1)) (cwV 1 htA (gd_V wd480 wd482 wd16 wd28 wd483) rfl rfl rfl (by decide +kernel) (by rw [hR]; exact ⟨Nat.le_of_ble_eq_true rfl, Nat.le_of_ble_eq_true rfl⟩)) (pw_V (ci := 4) (q := (RM, TM, 8)) hKN hob rfl ⟨hob, Nat.zero_lt_succ _⟩) rfl rfl hl.1 rfl (lv_room (Nat.le_of_ble_eq_true rfl)) dM_rule_28 (by rw [hR]; exact ⟨Nat.le_of_ble_eq_true rfl, Nat.le_of_ble_eq_true rfl⟩)) hL (fun q h => Or.inl h) (fun v9 st9 t9 lc5 h0 ha9 hL hq9 => ?_)
      obtain ⟨hv9, hob1, hz1, hk1⟩ := hq9
      cases hv9
      rw [h0] at hz1 hk1
      generalize t9.heap = H4 at hob1 hz1 hk1 ⊢
      have hob : ob G 4 mo (mF (nI 1) ao af n lw hg sa ea) H4 := hob1
      have hal := al_k hal (hk1 ao hA.1)
      have hab := ai_k hab (hk1 af hA.2.1)
      have hsl := ai_k hsl (hk1 sa hA.2.2.1)
      have hel := ai_k hel (hk1 ea hA.2.2.2.1)
      have hk : ∀ q, q ≠ mo → q ≠ sa → q ≠ ea → H4[q]? = s.heap[q]? := fun q h1 h2 h3 => (hk1 q h1).trans (hk q h1 h2 h3)
      have hz := hz1.trans hz
      rw [hQ]
      exact W.iret (v := 0) hx hb hrt (fun t ht hW => ⟨_, (nI 1), rfl, (Or.inr ⟨a, ha, rfl, Or.inl ⟨inb_neg c2, rfl⟩⟩), ⟨lw, hg, fS, fE, by rw [ht]; exact ⟨hob, hal, hab, hsl, hel⟩⟩, by rw [ht]; exact hz, by rw [ht]; exact hk⟩) hL dM_rule_31
    · refine lv_iload_n hx hb dM_rule_17 rfl (lv_at hl 2 rfl) ?_
      refine lv_aload_n hx hb dM_rule_18 rfl (lv_at hl 0 rfl) ?_
      refine lv_iload_n hx hb dM_rule_19 rfl (lv_at hl 1 rfl) ?_
      refine pw_call (F := mW mo sa ea) (va_runV (As := [.int (nI a)]) (rest := [.int v2]) ⟨hx, hb, hml, hown, htA⟩ (m_table l G cA mo ao af sa ea n fo fb (nI 0) a (by omega)) (cwV 1 htA (gd_V wd543 wd545 wd22 wd28 wd546) rfl rfl rfl (by decide +kernel) (by rw [hR]; exact ⟨Nat.le_of_ble_eq_true rfl, Nat.le_of_ble_eq_true rfl⟩)) (pw_V (ci := 4) (q := (RM, TM, 8)) hKN hob rfl ⟨hA, lw, hg, fS, fE, hob, hal, hab, hsl, hel⟩) rfl rfl hl.1 rfl (lv_room (Nat.le_of_ble_eq_true rfl)) dM_rule_20 (by rw [hR]; exact ⟨Nat.le_of_ble_eq_true rfl, Nat.le_of_ble_eq_true rfl⟩)) hL (fun q h => h) (fun v9 st9 t9 lc5 h0 ha9 hL hq9 => ?_)
      obtain ⟨hv9, ⟨lw2, hg2, fS2, fE2, ⟨hob, hal, hab, hsl, hel⟩, hrows⟩, hz1, hk1⟩ := hq9
      cases hv9
      rw [h0] at hz1 hk1
      generalize t9.heap = H4 at hob hal hab hsl hel hz1 hk1 ⊢
      have hk : ∀ q, q ≠ mo → q ≠ sa → q ≠ ea → H4[q]? = s.heap[q]? := fun q h1 h2 h3 => (hk1 q h1 h2 h3).trans (hk q h1 h2 h3)
      have hz := hz1.trans hz
      have hlen : (tbl (fun k => fo (64 * a + k))).length ≤ 64 := tbl_len (fun k => fo (64 * a + k))
      refine lv_icmp_lt (tgt := 32) hx hb dM_rule_23 (by decide) (fun c3 => ?_) (fun c3 => ?_)
      · obtain ⟨j, hj, rfl⟩ := inb_t (by omega) (inb_ok (by omega) c2 (fun q9 => absurd c3 (Int32.not_lt.mpr q9)))
        obtain ⟨hr1, hr2⟩ := hrows j hj
        obtain ⟨hd3, hx64⟩ := tbl_ok (fun k => fo (64 * a + k)) j hj
        generalize hrow : (tbl (fun k => fo (64 * a + k))).getD j (0, 0) = row at hr1 hr2 hd3 hx64
        obtain ⟨x, d⟩ := row
        have hr1 : fS2 j = nI x := hr1
        have hr2 : fE2 j = nI (4 ^ d) := hr2
        have hd3 : d ≤ 3 := hd3
        have hx64 : x + 4 ^ d ≤ 64 := hx64
        have hp : 0 < 4 ^ d := Nat.pow_pos (by decide)
        have hpm := pmax d hd3
        refine lv_aload_n hx hb dM_rule_32 rfl (lv_at hl 0 rfl) ?_
        refine va_get (D := G) (ci := 4) (v := .ref sa) (C := RM) (T := TM) (N := 8) hx hb htA inM hown hK (ob_P hob) 0 rfl rfl 6 (by decide) (htA _ wd441) (fun _ h9 => h9) rfl dM_rule_33 ?_
        refine lv_iload_n hx hb dM_rule_36 rfl (lv_at hl 2 rfl) ?_
        refine pw_iald hx hb hK hsl 1 rfl (by omega) (by decide) dM_rule_37 ?_
        refine pw_ti (y := nI x) hr1 ?_
        refine lv_istore (lv' := [(4, .int (nI x)), (0, .ref mo), (1, .int (nI a)), (2, .int (nI j)), (3, .int v3)]) hx hb dM_rule_38 hl (by decide) rfl (fun ls hl => ?_)
        refine lv_iload_n hx hb dM_rule_40 rfl (lv_at hl 4 rfl) ?_
        rcases pk_ix v3 (n := 4) (by decide) with hu | hu | ⟨u, hu, rfl⟩
        · refine lv_tableOut (tgt := 153) hx hb dM_rule_41 (Or.inl (tb_lo hu)) (by decide) ?_
          refine lv_aload_n hx hb dM_rule_153 rfl (lv_at hl 1 rfl) ?_
          refine lv_iconst (v := nI 2) hx hb dM_rule_154 (by decide) ?_
          refine pw_call (F := mW mo sa ea) (va_runV (As := [.int (nI 2)]) (rest := []) ⟨hx, hb, hml, hown, htA⟩ (m_raise l G cA mo (mF (nI 0) ao af n lw2 hg2 sa ea) (nI 2)) (cwV 1 htA (gd_V wd480 wd482 wd16 wd28 wd483) rfl rfl rfl (by decide +kernel) (by rw [hR]; exact ⟨Nat.le_of_ble_eq_true rfl, Nat.le_of_ble_eq_true rfl⟩)) (pw_V (ci := 4) (q := (RM, TM, 8)) hKN hob rfl ⟨hob, Nat.zero_lt_succ _⟩) rfl rfl hl.1 rfl (lv_room (Nat.le_of_ble_eq_true rfl)) dM_rule_155 (by rw [hR]; exact ⟨Nat.le_of_ble_eq_true rfl, Nat.le_of_ble_eq_true rfl⟩)) hL (fun q h => Or.inl h) (fun v9 st9 t9 lc7 h0 ha9 hL hq9 => ?_)
          obtain ⟨hv9, hob1, hz1, hk1⟩ := hq9
          cases hv9
          rw [h0] at hz1 hk1
          generalize t9.heap = H6 at hob1 hz1 hk1 ⊢
          have hob : ob G 4 mo (mF (nI 2) ao af n lw2 hg2 sa ea) H6 := hob1
          have hal := al_k hal (hk1 ao hA.1)
          have hab := ai_k hab (hk1 af hA.2.1)
          have hsl := ai_k hsl (hk1 sa hA.2.2.1)
          have hel := ai_k hel (hk1 ea hA.2.2.2.1)
          have hk : ∀ q, q ≠ mo → q ≠ sa → q ≠ ea → H6[q]? = s.heap[q]? := fun q h1 h2 h3 => (hk1 q h1).trans (hk q h1 h2 h3)
          have hz := hz1.trans hz
          rw [hQ]
          exact W.iret (v := 0) hx hb hrt (fun t ht hW => ⟨_, (nI 2), rfl, (Or.inr ⟨a, ha, rfl, Or.inr ⟨j, hj, rfl, Or.inl ⟨inb_neg hu, rfl⟩⟩⟩), ⟨lw2, hg2, fS2, fE2, by rw [ht]; exact ⟨hob, hal, hab, hsl, hel⟩⟩, by rw [ht]; exact hz, by rw [ht]; exact hk⟩) hL dM_rule_158
        · refine lv_tableOut (tgt := 153) hx hb dM_rule_41 (Or.inr (by have := tb_hi (j := 4) (by decide) hu; omega)) (by decide) ?_
          refine lv_aload_n hx hb dM_rule_153 rfl (lv_at hl 1 rfl) ?_
          refine lv_iconst (v := nI 2) hx hb dM_rule_154 (by decide) ?_
          refine pw_call (F := mW mo sa ea) (va_runV (As := [.int (nI 2)]) (rest := []) ⟨hx, hb, hml, hown, htA⟩ (m_raise l G cA mo (mF (nI 0) ao af n lw2 hg2 sa ea) (nI 2)) (cwV 1 htA (gd_V wd480 wd482 wd16 wd28 wd483) rfl rfl rfl (by decide +kernel) (by rw [hR]; exact ⟨Nat.le_of_ble_eq_true rfl, Nat.le_of_ble_eq_true rfl⟩)) (pw_V (ci := 4) (q := (RM, TM, 8)) hKN hob rfl ⟨hob, Nat.zero_lt_succ _⟩) rfl rfl hl.1 rfl (lv_room (Nat.le_of_ble_eq_true rfl)) dM_rule_155 (by rw [hR]; exact ⟨Nat.le_of_ble_eq_true rfl, Nat.le_of_ble_eq_true rfl⟩)) hL (fun q h => Or.inl h) (fun v9 st9 t9 lc7 h0 ha9 hL hq9 => ?_)
          obtain ⟨hv9, hob1, hz1, hk1⟩ := hq9
          cases hv9
          rw [h0] at hz1 hk1
          generalize t9.heap = H6 at hob1 hz1 hk1 ⊢
          have hob : ob G 4 mo (mF (nI 2) ao af n lw2 hg2 sa ea) H6 := hob1
          have hal := al_k hal (hk1 ao hA.1)
          have hab := ai_k hab (hk1 af hA.2.1)
          have hsl := ai_k hsl (hk1 sa hA.2.2.1)
          have hel := ai_k hel (hk1 ea hA.2.2.2.1)
          have hk : ∀ q, q ≠ mo → q ≠ sa → q ≠ ea → H6[q]? = s.heap[q]? := fun q h1 h2 h3 => (hk1 q h1).trans (hk q h1 h2 h3)
          have hz := hz1.trans hz
          rw [hQ]
          exact W.iret (v := 0) hx hb hrt (fun t ht hW => ⟨_, (nI 2), rfl, (Or.inr ⟨a, ha, rfl, Or.inr ⟨j, hj, rfl, Or.inl ⟨inb_big (by decide) hu, rfl⟩⟩⟩), ⟨lw2, hg2, fS2, fE2, by rw [ht]; exact ⟨hob, hal, hab, hsl, hel⟩⟩, by rw [ht]; exact hz, by rw [ht]; exact hk⟩) hL dM_rule_158
        · have hj9 : u = 0 ∨ u = 1 ∨ u = 2 ∨ u = 3 := by omega
          rcases hj9 with rfl | rfl | rfl | rfl
          · refine lv_tableIn (tgt := 72) (off := 31) hx hb dM_rule_41 (by decide +kernel) (by decide +kernel) rfl (by decide) ?_
            refine lv_aload_n hx hb dM_rule_72 rfl (lv_at hl 1 rfl) ?_
            refine va_get (D := G) (ci := 4) (v := .ref ea) (C := RM) (T := TM) (N := 8) hx hb htA inM hown hK (ob_P hob) 0 rfl rfl 7 (by decide) (htA _ wd442) (fun _ h9 => h9) rfl dM_rule_73 ?_
            refine lv_iload_n hx hb dM_rule_76 rfl (lv_at hl 3 rfl) ?_
            refine pw_iald hx hb hK hel 1 rfl (by omega) (by decide) dM_rule_77 ?_
            refine pw_ti (y := nI (4 ^ d)) hr2 ?_
            refine lv_bipush (v := nI 64) hx hb dM_rule_78 (by decide) ?_
            refine lv_icmp_ge (tgt := 92) hx hb dM_rule_80 (by decide) (fun c5 => ?_) (fun c5 => ?_)
            · have hge := (p64 d hd3).mp ((nI_leI (by decide) (by omega)).mp c5)
              refine lv_iconst (v := (-1)) hx hb dM_rule_92 (by decide) ?_
              rw [hQ]
              exact W.iret (v := (-1)) hx hb hrt (fun t ht hW => ⟨_, (nI 0), rfl, (Or.inr ⟨a, ha, rfl, Or.inr ⟨j, hj, rfl, Or.inr ⟨0, by decide, rfl, rfl, by rw [hrow]; exact Or.inl ⟨by decide, Or.inr ⟨hge, rfl⟩⟩⟩⟩⟩), ⟨lw2, hg2, fS2, fE2, by rw [ht]; exact ⟨hob, hal, hab, hsl, hel⟩⟩, by rw [ht]; exact hz, by rw [ht]; exact hk⟩) hL dM_rule_93
            · have hlt : ¬ 3 ≤ d := fun q9 => c5 ((nI_leI (by decide) (by omega)).mpr ((p64 d hd3).mpr q9))
              refine lv_iload hx hb dM_rule_83 (lv_at hl 0 rfl) ?_
              refine lv_iconst (v := nI 0) hx hb dM_rule_85 (by decide) ?_
              refine vp_callSi (va_Run.run (va_runS (As := [.int (nI x), .int (nI 0)]) (rest := []) ⟨hx, hb, hml, hown, htA⟩ (m_value l G cA x (by omega) 0 (by decide)) (va_cwS 2 htA (gd_S wd488 wd489 wd28 wd490) rfl rfl rfl (by decide +kernel) (by rw [hR]; exact ⟨Nat.le_of_ble_eq_true rfl, Nat.le_of_ble_eq_true rfl⟩)) (pw_S hKN trivial) rfl rfl hl.1 rfl (lv_room (Nat.le_of_ble_eq_true rfl)) dM_rule_86 (by rw [hR]; exact ⟨Nat.le_of_ble_eq_true rfl, Nat.le_of_ble_eq_true rfl⟩))) (fun r6 hr6 => ?_)
              subst hr6
              refine lv_goto (tgt := 93) hx hb dM_rule_89 (by decide) ?_
              rw [hQ]
              exact W.iret (v := nI (vl x 0)) hx hb hrt (fun t ht hW => ⟨_, (nI 0), rfl, (Or.inr ⟨a, ha, rfl, Or.inr ⟨j, hj, rfl, Or.inr ⟨0, by decide, rfl, rfl, by rw [hrow]; exact Or.inl ⟨by decide, Or.inl ⟨show d < 3 by omega, rfl⟩⟩⟩⟩⟩), ⟨lw2, hg2, fS2, fE2, by rw [ht]; exact ⟨hob, hal, hab, hsl, hel⟩⟩, by rw [ht]; exact hz, by rw [ht]; exact hk⟩) hL dM_rule_93
          · refine lv_tableIn (tgt := 94) (off := 53) hx hb dM_rule_41 (by decide +kernel) (by decide +kernel) rfl (by decide) ?_
            refine lv_aload_n hx hb dM_rule_94 rfl (lv_at hl 1 rfl) ?_
            refine va_get (D := G) (ci := 4) (v := .ref ea) (C := RM) (T := TM) (N := 8) hx hb htA inM hown hK (ob_P hob) 0 rfl rfl 7 (by decide) (htA _ wd442) (fun _ h9 => h9) rfl dM_rule_95 ?_
            refine lv_iload_n hx hb dM_rule_98 rfl (lv_at hl 3 rfl) ?_
            refine pw_iald hx hb hK hel 1 rfl (by omega) (by decide) dM_rule_99 ?_
            refine pw_ti (y := nI (4 ^ d)) hr2 ?_
            refine lv_bipush (v := nI 16) hx hb dM_rule_100 (by decide) ?_
            refine lv_icmp_ge (tgt := 114) hx hb dM_rule_102 (by decide) (fun c5 => ?_) (fun c5 => ?_)
            · have hge := (p16 d hd3).mp ((nI_leI (by decide) (by omega)).mp c5)
              refine lv_iconst (v := (-1)) hx hb dM_rule_114 (by decide) ?_
              rw [hQ]
              exact W.iret (v := (-1)) hx hb hrt (fun t ht hW => ⟨_, (nI 0), rfl, (Or.inr ⟨a, ha, rfl, Or.inr ⟨j, hj, rfl, Or.inr ⟨1, by decide, rfl, rfl, by rw [hrow]; exact Or.inl ⟨by decide, Or.inr ⟨hge, rfl⟩⟩⟩⟩⟩), ⟨lw2, hg2, fS2, fE2, by rw [ht]; exact ⟨hob, hal, hab, hsl, hel⟩⟩, by rw [ht]; exact hz, by rw [ht]; exact hk⟩) hL dM_rule_115
            · have hlt : ¬ 2 ≤ d := fun q9 => c5 ((nI_leI (by decide) (by omega)).mpr ((p16 d hd3).mpr q9))
              refine lv_iload hx hb dM_rule_105 (lv_at hl 0 rfl) ?_
              refine lv_iconst (v := nI 1) hx hb dM_rule_107 (by decide) ?_
              refine vp_callSi (va_Run.run (va_runS (As := [.int (nI x), .int (nI 1)]) (rest := []) ⟨hx, hb, hml, hown, htA⟩ (m_value l G cA x (by omega) 1 (by decide)) (va_cwS 2 htA (gd_S wd488 wd489 wd28 wd490) rfl rfl rfl (by decide +kernel) (by rw [hR]; exact ⟨Nat.le_of_ble_eq_true rfl, Nat.le_of_ble_eq_true rfl⟩)) (pw_S hKN trivial) rfl rfl hl.1 rfl (lv_room (Nat.le_of_ble_eq_true rfl)) dM_rule_108 (by rw [hR]; exact ⟨Nat.le_of_ble_eq_true rfl, Nat.le_of_ble_eq_true rfl⟩))) (fun r6 hr6 => ?_)
              subst hr6
              refine lv_goto (tgt := 115) hx hb dM_rule_111 (by decide) ?_
              rw [hQ]
              exact W.iret (v := nI (vl x 1)) hx hb hrt (fun t ht hW => ⟨_, (nI 0), rfl, (Or.inr ⟨a, ha, rfl, Or.inr ⟨j, hj, rfl, Or.inr ⟨1, by decide, rfl, rfl, by rw [hrow]; exact Or.inl ⟨by decide, Or.inl ⟨show d < 2 by omega, rfl⟩⟩⟩⟩⟩), ⟨lw2, hg2, fS2, fE2, by rw [ht]; exact ⟨hob, hal, hab, hsl, hel⟩⟩, by rw [ht]; exact hz, by rw [ht]; exact hk⟩) hL dM_rule_115
          · refine lv_tableIn (tgt := 116) (off := 75) hx hb dM_rule_41 (by decide +kernel) (by decide +kernel) rfl (by decide) ?_
            refine lv_aload_n hx hb dM_rule_116 rfl (lv_at hl 1 rfl) ?_
            refine va_get (D := G) (ci := 4) (v := .ref ea) (C := RM) (T := TM) (N := 8) hx hb htA inM hown hK (ob_P hob) 0 rfl rfl 7 (by decide) (htA _ wd442) (fun _ h9 => h9) rfl dM_rule_117 ?_
            refine lv_iload_n hx hb dM_rule_120 rfl (lv_at hl 3 rfl) ?_
            refine pw_iald hx hb hK hel 1 rfl (by omega) (by decide) dM_rule_121 ?_
            refine pw_ti (y := nI (4 ^ d)) hr2 ?_
            refine lv_iconst (v := nI 4) hx hb dM_rule_122 (by decide) ?_
            refine lv_icmp_ge (tgt := 135) hx hb dM_rule_123 (by decide) (fun c5 => ?_) (fun c5 => ?_)
            · have hge := (p4 d hd3).mp ((nI_leI (by decide) (by omega)).mp c5)
              refine lv_iconst (v := (-1)) hx hb dM_rule_135 (by decide) ?_
              rw [hQ]
              exact W.iret (v := (-1)) hx hb hrt (fun t ht hW => ⟨_, (nI 0), rfl, (Or.inr ⟨a, ha, rfl, Or.inr ⟨j, hj, rfl, Or.inr ⟨2, by decide, rfl, rfl, by rw [hrow]; exact Or.inl ⟨by decide, Or.inr ⟨hge, rfl⟩⟩⟩⟩⟩), ⟨lw2, hg2, fS2, fE2, by rw [ht]; exact ⟨hob, hal, hab, hsl, hel⟩⟩, by rw [ht]; exact hz, by rw [ht]; exact hk⟩) hL dM_rule_136
            · have hlt : ¬ 1 ≤ d := fun q9 => c5 ((nI_leI (by decide) (by omega)).mpr ((p4 d hd3).mpr q9))
              refine lv_iload hx hb dM_rule_126 (lv_at hl 0 rfl) ?_
              refine lv_iconst (v := nI 2) hx hb dM_rule_128 (by decide) ?_
              refine vp_callSi (va_Run.run (va_runS (As := [.int (nI x), .int (nI 2)]) (rest := []) ⟨hx, hb, hml, hown, htA⟩ (m_value l G cA x (by omega) 2 (by decide)) (va_cwS 2 htA (gd_S wd488 wd489 wd28 wd490) rfl rfl rfl (by decide +kernel) (by rw [hR]; exact ⟨Nat.le_of_ble_eq_true rfl, Nat.le_of_ble_eq_true rfl⟩)) (pw_S hKN trivial) rfl rfl hl.1 rfl (lv_room (Nat.le_of_ble_eq_true rfl)) dM_rule_129 (by rw [hR]; exact ⟨Nat.le_of_ble_eq_true rfl, Nat.le_of_ble_eq_true rfl⟩))) (fun r6 hr6 => ?_)
              subst hr6
              refine lv_goto (tgt := 136) hx hb dM_rule_132 (by decide) ?_
              rw [hQ]
              exact W.iret (v := nI (vl x 2)) hx hb hrt (fun t ht hW => ⟨_, (nI 0), rfl, (Or.inr ⟨a, ha, rfl, Or.inr ⟨j, hj, rfl, Or.inr ⟨2, by decide, rfl, rfl, by rw [hrow]; exact Or.inl ⟨by decide, Or.inl ⟨show d < 1 by omega, rfl⟩⟩⟩⟩⟩), ⟨lw2, hg2, fS2, fE2, by rw [ht]; exact ⟨hob, hal, hab, hsl, hel⟩⟩, by rw [ht]; exact hz, by rw [ht]; exact hk⟩) hL dM_rule_136
          · refine lv_tableIn (tgt := 137) (off := 96) hx hb dM_rule_41 (by decide +kernel) (by decide +kernel) rfl (by decide) ?_
            refine lv_aload_n hx hb dM_rule_137 rfl (lv_at hl 1 rfl) ?_
            refine va_get (D := G) (ci := 4) (v := .ref ao) (C := RM) (T := TM) (N := 8) hx hb htA inM hown hK (ob_P hob) 0 rfl rfl 1 (by decide) (htA _ wd436) (fun _ h9 => h9) rfl dM_rule_138 ?_
            refine lv_bipush (v := nI 64) hx hb dM_rule_141 (by decide) ?_
            refine lv_iload_n hx hb dM_rule_143 rfl (lv_at hl 2 rfl) ?_
            refine lv_imul hx hb dM_rule_144 ?_
            refine pw_ti (y := nI (64 * a)) (pk_mul _ _) ?_
            refine lv_iload hx hb dM_rule_145 (lv_at hl 0 rfl) ?_
            refine lv_iadd hx hb dM_rule_147 ?_
            refine pw_ti (y := nI ((64 * a) + x)) (nI_add _ _) ?_
            refine pw_lald hx hb hK hal 0 rfl (by omega) (by decide) dM_rule_148 ?_
            refine vp_callSi (va_Run.run (va_runS (As := [.long (fo ((64 * a) + x))]) (rest := []) ⟨hx, hb, hml, hown, htA⟩ (m_ones l G cA (fo (64 * a + x))) (va_cwS 1 htA (gd_S wd562 wd563 wd28 wd564) rfl rfl rfl (by decide +kernel) (by rw [hR]; exact ⟨Nat.le_of_ble_eq_true rfl, Nat.le_of_ble_eq_true rfl⟩)) (pw_S hKN trivial) rfl rfl hl.1 rfl (lv_room (Nat.le_of_ble_eq_true rfl)) dM_rule_149 (by rw [hR]; exact ⟨Nat.le_of_ble_eq_true rfl, Nat.le_of_ble_eq_true rfl⟩))) (fun r6 hr6 => ?_)
            subst hr6
            rw [hQ]
            exact W.iret (v := nI (cd (fo (64 * a + x)) 64)) hx hb hrt (fun t ht hW => ⟨_, (nI 0), rfl, (Or.inr ⟨a, ha, rfl, Or.inr ⟨j, hj, rfl, Or.inr ⟨3, by decide, rfl, rfl, by rw [hrow]; exact Or.inr ⟨rfl, rfl⟩⟩⟩⟩), ⟨lw2, hg2, fS2, fE2, by rw [ht]; exact ⟨hob, hal, hab, hsl, hel⟩⟩, by rw [ht]; exact hz, by rw [ht]; exact hk⟩) hL dM_rule_152
      · have hge := Int32.not_lt.mp c3
        refine lv_aload_n hx hb dM_rule_26 rfl (lv_at hl 0 rfl) ?_
        refine lv_iconst (v := nI 1) hx hb dM_rule_27 (by decide) ?_
        refine pw_call (F := mW mo sa ea) (va_runV (As := [.int (nI 1)]) (rest := []) ⟨hx, hb, hml, hown, htA⟩ (m_raise l G cA mo (mF (nI 0) ao af n lw2 hg2 sa ea) (nI 1)) (cwV 1 htA (gd_V wd480 wd482 wd16 wd28 wd483) rfl rfl rfl (by decide +kernel) (by rw [hR]; exact ⟨Nat.le_of_ble_eq_true rfl, Nat.le_of_ble_eq_true rfl⟩)) (pw_V (ci := 4) (q := (RM, TM, 8)) hKN hob rfl ⟨hob, Nat.zero_lt_succ _⟩) rfl rfl hl.1 rfl (lv_room (Nat.le_of_ble_eq_true rfl)) dM_rule_28 (by rw [hR]; exact ⟨Nat.le_of_ble_eq_true rfl, Nat.le_of_ble_eq_true rfl⟩)) hL (fun q h => Or.inl h) (fun v9 st9 t9 lc7 h0 ha9 hL hq9 => ?_)
        obtain ⟨hv9, hob1, hz1, hk1⟩ := hq9
        cases hv9
        rw [h0] at hz1 hk1
        generalize t9.heap = H6 at hob1 hz1 hk1 ⊢
        have hob : ob G 4 mo (mF (nI 1) ao af n lw2 hg2 sa ea) H6 := hob1
        have hal := al_k hal (hk1 ao hA.1)
        have hab := ai_k hab (hk1 af hA.2.1)
        have hsl := ai_k hsl (hk1 sa hA.2.2.1)
        have hel := ai_k hel (hk1 ea hA.2.2.2.1)
        have hk : ∀ q, q ≠ mo → q ≠ sa → q ≠ ea → H6[q]? = s.heap[q]? := fun q h1 h2 h3 => (hk1 q h1).trans (hk q h1 h2 h3)
        have hz := hz1.trans hz
        rw [hQ]
        exact W.iret (v := 0) hx hb hrt (fun t ht hW => ⟨_, (nI 1), rfl, (Or.inr ⟨a, ha, rfl, Or.inl ⟨inb_big (by omega) hge, rfl⟩⟩), ⟨lw2, hg2, fS2, fE2, by rw [ht]; exact ⟨hob, hal, hab, hsl, hel⟩⟩, by rw [ht]; exact hz, by rw [ht]; exact hk⟩) hL dM_rule_31

set_option maxRecDepth 100000 in
set_option maxHeartbeats 4000000 in
theorem m_match (l : Launch) (G : va_G) (cA : Nat → ClassId) (mo ao af sa ea n : Nat) (fo : Nat → Int64) (fb : Nat → Int32) (v q : Int32) : Met l yM_match wsM_match ({ frames := 5, cells := 0, slots := 0, locals := 122 }) (PH G cA [.ref mo, .int v, .int q] (fun H => (mA mo ao af sa ea ∧ n ≤ 50 ∧ ∃ th, mV G cA mo ao af sa ea n fo fb th H))) (mI G cA mo ao af sa ea n fo fb (fun r th => (inb n v = false ∧ th = nI 1) ∨ (inb n v = true ∧ inb 64 q = false ∧ th = nI 2) ∨ (∃ a x, a < n ∧ x < 64 ∧ v = nI a ∧ q = nI x ∧ th = nI 0 ∧ ((∃ j, plR (tbl (fun k => fo (64 * a + k))) x j ∧ r = nI j) ∨ (∀ j, j < (tbl (fun k => fo (64 * a + k))).length → ¬ x < ((tbl (fun k => fo (64 * a + k))).getD j (0, 0)).1 + 4 ^ ((tbl (fun k => fo (64 * a + k))).getD j (0, 0)).2))))) 0 0 (mW mo sa ea) := by
  refine Met.ofW (cc := cM_match) (maxL := 5) (ret := (some .int)) (by decide) rfl ?_
  intro p e s m args below meth c s₁ B hml hv
  obtain ⟨hav, hKN, hA, hn, th0, lw, hg, fS, fE, hob, hal, hab, hsl, hel⟩ := hv
  have hK := hKN.1
  have hx := B.exec
  have hb := B.bytes
  have hrt := B.returns
  have htA : ∀ w ∈ ALL, w.before args s = true := fun w h => atoms_spec (ws := wsM_match) B.pre w (List.mem_cons_of_mem _ h)
  have hown : s.vm.findClass RM = some m.cls := findClass_of_methodNamed B.named
  have hlocks := B.notSynchronized
  refine pw_nm (fun R Q hR hQ => ?_)
  refine pw_entry (vs := [.ref mo, .int v, .int q]) hav (Nat.le_of_ble_eq_true rfl) (fun ls hl => ?_)
  have hl : lv_has ls 5 [(0, .ref mo), (1, .int v), (2, .int q)] := hl
  have hz : s.heap.size = s.heap.size := rfl
  have hk : ∀ q, q ≠ mo → q ≠ sa → q ≠ ea → s.heap[q]? = s.heap[q]? := fun _ _ _ _ => rfl
  have hL : ∀ z ∈ ([] : List Loc), mW mo sa ea z.base := fun _ h => by cases h
  refine lv_aload_n hx hb dM_match_0 rfl (lv_at hl 0 rfl) ?_
  refine lv_iconst (v := nI 0) hx hb dM_match_1 (by decide) ?_
  refine pw_put (ci := 4) (C := RM) (T := TM) (N := 8) (ty := .int) (F := mW mo sa ea) hx hb htA inM tyM tyM_ok nmM hown hK hob rfl 0 (by decide) (htA _ wd435) (fun _ h9 => h9) rfl (by decide +kernel) rfl rfl (Nat.le_of_ble_eq_true rfl) hL (Or.inl rfl) dM_match_2 (fun H1 lc2 hob1 hz1 hk1 hL => ?_)
  have hob : ob G 4 mo (mF (nI 0) ao af n lw hg sa ea) H1 := hob1
  have hal := al_k hal (hk1 ao hA.1)
  have hab := ai_k hab (hk1 af hA.2.1)
  have hsl := ai_k hsl (hk1 sa hA.2.2.1)
  have hel := ai_k hel (hk1 ea hA.2.2.2.1)
  have hk : ∀ q, q ≠ mo → q ≠ sa → q ≠ ea → H1[q]? = s.heap[q]? := fun q h1 h2 h3 => (hk1 q h1).trans (hk q h1 h2 h3)
  have hz := hz1.trans hz
  refine lv_aload_n hx hb dM_match_5 rfl (lv_at hl 0 rfl) ?_
  refine lv_iload_n hx hb dM_match_6 rfl (lv_at hl 1 rfl) ?_
  refine vp_callSi (va_Run.run (va_runV (As := [.int v]) (rest := []) ⟨hx, hb, hml, hown, htA⟩ (m_made l G cA mo n (mF (nI 0) ao af n lw hg sa ea) v rfl (by omega)) (cwV 1 htA (gd_V wd476 wd478 wd15 wd28 wd479) rfl rfl rfl (by decide +kernel) (by rw [hR]; exact ⟨Nat.le_of_ble_eq_true rfl, Nat.le_of_ble_eq_true rfl⟩)) (pw_V (ci := 4) (q := (RM, TM, 8)) hKN hob rfl hob) rfl rfl hl.1 rfl (lv_room (Nat.le_of_ble_eq_true rfl)) dM_match_7 (by rw [hR]; exact ⟨Nat.le_of_ble_eq_true rfl, Nat.le_of_ble_eq_true rfl⟩))) (fun r3 hr3 => ?_)
  subst hr3
  refine lv_if_ne (tgt := 19) hx hb dM_match_10 (by decide) (fun c1 => ?_) (fun c1 => ?_)
  · have hq := bI_ne.mp c1
    obtain ⟨a, ha, rfl⟩ := inb_t (by omega) hq
    refine lv_iload_n hx hb dM_match_19 rfl (lv_at hl 2 rfl) ?_
    refine lv_iconst (v := nI 0) hx hb dM_match_20 (by decide) ?_
    refine lv_bipush (v := nI 63) hx hb dM_match_21 (by decide) ?_
    refine vp_callSi (va_Run.run (va_runS (As := [.int q, .int (nI 0), .int (nI 63)]) (rest := []) ⟨hx, hb, hml, hown, htA⟩ (m_in l G cA q (nI 0) (nI 63)) (va_cwS 3 htA (gd_S wd473 wd474 wd28 wd475) rfl rfl rfl (by decide +kernel) (by rw [hR]; exact ⟨Nat.le_of_ble_eq_true rfl, Nat.le_of_ble_eq_true rfl⟩)) (pw_S hKN trivial) rfl rfl hl.1 rfl (lv_room (Nat.le_of_ble_eq_true rfl)) dM_match_23 (by rw [hR]; exact ⟨Nat.le_of_ble_eq_true rfl, Nat.le_of_ble_eq_true rfl⟩))) (fun r4 hr4 => ?_)
    subst hr4
    refine pw_ti (y := bI (inb 64 q)) (by rw [in_63 q 63 64 rfl (by decide)]) ?_
    refine lv_if_ne (tgt := 35) hx hb dM_match_26 (by decide) (fun c2 => ?_) (fun c2 => ?_)
    · obtain ⟨x, hx0, rfl⟩ := inb_t (by decide) (bI_ne.mp c2)
      refine lv_aload_n hx hb dM_match_35 rfl (lv_at hl 0 rfl) ?_
      refine lv_iload_n hx hb dM_match_36 rfl (lv_at hl 1 rfl) ?_
      refine pw_call (F := mW mo sa ea) (va_runV (As := [.int (nI a)]) (rest := []) ⟨hx, hb, hml, hown, htA⟩ (m_table l G cA mo ao af sa ea n fo fb (nI 0) a (by omega)) (cwV 1 htA (gd_V wd543 wd545 wd22 wd28 wd546) rfl rfl rfl (by decide +kernel) (by rw [hR]; exact ⟨Nat.le_of_ble_eq_true rfl, Nat.le_of_ble_eq_true rfl⟩)) (pw_V (ci := 4) (q := (RM, TM, 8)) hKN hob rfl ⟨hA, lw, hg, fS, fE, hob, hal, hab, hsl, hel⟩) rfl rfl hl.1 rfl (lv_room (Nat.le_of_ble_eq_true rfl)) dM_match_37 (by rw [hR]; exact ⟨Nat.le_of_ble_eq_true rfl, Nat.le_of_ble_eq_true rfl⟩)) hL (fun q h => h) (fun v9 st9 t9 lc6 h0 ha9 hL hq9 => ?_)
      obtain ⟨hv9, ⟨lw2, hg2, fS2, fE2, ⟨hob, hal, hab, hsl, hel⟩, hrows⟩, hz1, hk1⟩ := hq9
      cases hv9
      rw [h0] at hz1 hk1
      generalize t9.heap = H5 at hob hal hab hsl hel hz1 hk1 ⊢
      have hk : ∀ q, q ≠ mo → q ≠ sa → q ≠ ea → H5[q]? = s.heap[q]? := fun q h1 h2 h3 => (hk1 q h1 h2 h3).trans (hk q h1 h2 h3)
      have hz := hz1.trans hz
      have hlen : (tbl (fun k => fo (64 * a + k))).length ≤ 64 := tbl_len (fun k => fo (64 * a + k))
      refine lv_istore_n (lv' := [(3, .int (nI (tbl (fun k => fo (64 * a + k))).length)), (0, .ref mo), (1, .int (nI a)), (2, .int (nI x))]) hx hb dM_match_40 rfl hl (by decide) rfl (fun ls hl => ?_)
      refine lv_iconst (v := nI 0) hx hb dM_match_41 (by decide) ?_
      refine lv_istore (lv' := [(4, .int (nI 0)), (3, .int (nI (tbl (fun k => fo (64 * a + k))).length)), (0, .ref mo), (1, .int (nI a)), (2, .int (nI x))]) hx hb dM_match_42 hl (by decide) rfl (fun ls hl => ?_)
      have lp : ∀ (k i : Nat), i + k = (tbl (fun k => fo (64 * a + k))).length → (∀ j, j < i → ¬ x < ((tbl (fun k => fo (64 * a + k))).getD j (0, 0)).1 + 4 ^ ((tbl (fun k => fo (64 * a + k))).getD j (0, 0)).2) → ∀ ls : Array Slot, lv_has ls 5 [(0, .ref mo), (1, .int (nI a)), (2, .int (nI x)), (3, .int (nI (tbl (fun k => fo (64 * a + k))).length)), (4, .int (nI i))] → W p l e R s m args below meth c H5 lc6 0 0 Q (F0 m 44 ls []) := by
        intro k
        induction k with
        | zero =>
          intro i hik hinv ls hl
          have hi : i = (tbl (fun k => fo (64 * a + k))).length := by omega
          rw [hi] at hl
          refine lv_iload hx hb dM_match_44 (lv_at hl 4 rfl) ?_
          refine lv_iload_n hx hb dM_match_46 rfl (lv_at hl 3 rfl) ?_
          refine lv_icmp_ge (tgt := 78) hx hb dM_match_47 (by decide) (fun _ => ?_) (fun c9 => absurd (Int32.le_refl _) c9)
          refine lv_iconst (v := nI 0) hx hb dM_match_78 (by decide) ?_
          rw [hQ]
          exact W.iret (v := nI 0) hx hb hrt (fun t ht hW => ⟨_, (nI 0), rfl, (Or.inr (Or.inr ⟨a, x, ha, hx0, rfl, rfl, rfl, Or.inr (fun j9 hj9 => hinv j9 (by omega))⟩)), ⟨lw2, hg2, fS2, fE2, by rw [ht]; exact ⟨hob, hal, hab, hsl, hel⟩⟩, by rw [ht]; exact hz, by rw [ht]; exact hk⟩) hL dM_match_79
        | succ k ih =>
          intro i hik hinv ls hl
          have hi : i < (tbl (fun k => fo (64 * a + k))).length := by omega
          refine lv_iload hx hb dM_match_44 (lv_at hl 4 rfl) ?_
          refine lv_iload_n hx hb dM_match_46 rfl (lv_at hl 3 rfl) ?_
          refine lv_icmp_ge (tgt := 78) hx hb dM_match_47 (by decide) (fun c9 => absurd c9 (nI_ge hi (by omega))) (fun _ => ?_)
          obtain ⟨hr1, hr2⟩ := hrows i hi
          obtain ⟨hd3, hx64⟩ := tbl_ok (fun k => fo (64 * a + k)) i hi
          refine lv_iload_n hx hb dM_match_50 rfl (lv_at hl 2 rfl) ?_
          refine lv_aload_n hx hb dM_match_51 rfl (lv_at hl 0 rfl) ?_
          refine va_get (D := G) (ci := 4) (v := .ref sa) (C := RM) (T := TM) (N := 8) hx hb htA inM hown hK (ob_P hob) 0 rfl rfl 6 (by decide) (htA _ wd441) (fun _ h9 => h9) rfl dM_match_52 ?_
          refine lv_iload hx hb dM_match_55 (lv_at hl 4 rfl) ?_
          refine pw_iald hx hb hK hsl 1 rfl (by omega) (by decide) dM_match_57 ?_
          refine pw_ti (y := nI ((tbl (fun k => fo (64 * a + k))).getD i (0, 0)).1) hr1 ?_
          refine lv_aload_n hx hb dM_match_58 rfl (lv_at hl 0 rfl) ?_
          refine va_get (D := G) (ci := 4) (v := .ref ea) (C := RM) (T := TM) (N := 8) hx hb htA inM hown hK (ob_P hob) 0 rfl rfl 7 (by decide) (htA _ wd442) (fun _ h9 => h9) rfl dM_match_59 ?_
          refine lv_iload hx hb dM_match_62 (lv_at hl 4 rfl) ?_
          refine pw_iald hx hb hK hel 1 rfl (by omega) (by decide) dM_match_64 ?_
          refine pw_ti (y := nI (4 ^ ((tbl (fun k => fo (64 * a + k))).getD i (0, 0)).2)) hr2 ?_
          refine lv_iadd hx hb dM_match_65 ?_
          refine pw_ti (y := nI (((tbl (fun k => fo (64 * a + k))).getD i (0, 0)).1 + 4 ^ ((tbl (fun k => fo (64 * a + k))).getD i (0, 0)).2)) (nI_add _ _) ?_
          refine lv_icmp_ge (tgt := 72) hx hb dM_match_66 (by decide) (fun c3 => ?_) (fun c3 => ?_)
          · have hge := (nI_leI (by omega) (by omega)).mp c3
            refine lv_iinc (v := nI (i + 1)) (lv' := [(4, .int (nI (i + 1))), (0, .ref mo), (1, .int (nI a)), (2, .int (nI x)), (3, .int (nI (tbl (fun k => fo (64 * a + k))).length))]) hx hb dM_match_72 hl (k := 4) rfl (nI_1 i) (by decide) rfl (fun ls hl => ?_)
            refine lv_goto (tgt := 44) hx hb dM_match_75 (by decide) ?_
            exact ih (i + 1) (by omega) (lt_s hinv (by omega)) ls (lv_sub hl [1, 2, 3, 4, 0] rfl)
          · have hlt : x < ((tbl (fun k => fo (64 * a + k))).getD i (0, 0)).1 + 4 ^ ((tbl (fun k => fo (64 * a + k))).getD i (0, 0)).2 := by have : ¬ _ ≤ x := fun q9 => c3 ((nI_leI (by omega) (by omega)).mpr q9); omega
            refine lv_iload hx hb dM_match_69 (lv_at hl 4 rfl) ?_
            rw [hQ]
            exact W.iret (v := nI i) hx hb hrt (fun t ht hW => ⟨_, (nI 0), rfl, (Or.inr (Or.inr ⟨a, x, ha, hx0, rfl, rfl, rfl, Or.inl ⟨i, ⟨hi, hlt, hinv⟩, rfl⟩⟩)), ⟨lw2, hg2, fS2, fE2, by rw [ht]; exact ⟨hob, hal, hab, hsl, hel⟩⟩, by rw [ht]; exact hz, by rw [ht]; exact hk⟩) hL dM_match_71
      exact lp ((tbl (fun k => fo (64 * a + k))).length) 0 (by omega) lt_0 ls (lv_sub hl [2, 3, 4, 1, 0] rfl)
    · have hq2 := bI_eq.mp c2
      refine lv_aload_n hx hb dM_match_29 rfl (lv_at hl 0 rfl) ?_
      refine lv_iconst (v := nI 2) hx hb dM_match_30 (by decide) ?_
      refine pw_call (F := mW mo sa ea) (va_runV (As := [.int (nI 2)]) (rest := []) ⟨hx, hb, hml, hown, htA⟩ (m_raise l G cA mo (mF (nI 0) ao af n lw hg sa ea) (nI 2)) (cwV 1 htA (gd_V wd480 wd482 wd16 wd28 wd483) rfl rfl rfl (by decide +kernel) (by rw [hR]; exact ⟨Nat.le_of_ble_eq_true rfl, Nat.le_of_ble_eq_true rfl⟩)) (pw_V (ci := 4) (q := (RM, TM, 8)) hKN hob rfl ⟨hob, Nat.zero_lt_succ _⟩) rfl rfl hl.1 rfl (lv_room (Nat.le_of_ble_eq_true rfl)) dM_match_31 (by rw [hR]; exact ⟨Nat.le_of_ble_eq_true rfl, Nat.le_of_ble_eq_true rfl⟩)) hL (fun q h => Or.inl h) (fun v9 st9 t9 lc6 h0 ha9 hL hq9 => ?_)
      obtain ⟨hv9, hob1, hz1, hk1⟩ := hq9
      cases hv9
      rw [h0] at hz1 hk1
      generalize t9.heap = H5 at hob1 hz1 hk1 ⊢
      have hob : ob G 4 mo (mF (nI 2) ao af n lw hg sa ea) H5 := hob1
      have hal := al_k hal (hk1 ao hA.1)
      have hab := ai_k hab (hk1 af hA.2.1)
      have hsl := ai_k hsl (hk1 sa hA.2.2.1)
      have hel := ai_k hel (hk1 ea hA.2.2.2.1)
      have hk : ∀ q, q ≠ mo → q ≠ sa → q ≠ ea → H5[q]? = s.heap[q]? := fun q h1 h2 h3 => (hk1 q h1).trans (hk q h1 h2 h3)
      have hz := hz1.trans hz
      rw [hQ]
      exact W.iret (v := 0) hx hb hrt (fun t ht hW => ⟨_, (nI 2), rfl, (Or.inr (Or.inl ⟨hq, hq2, rfl⟩)), ⟨lw, hg, fS, fE, by rw [ht]; exact ⟨hob, hal, hab, hsl, hel⟩⟩, by rw [ht]; exact hz, by rw [ht]; exact hk⟩) hL dM_match_34
  · have hq := bI_eq.mp c1
    refine lv_aload_n hx hb dM_match_13 rfl (lv_at hl 0 rfl) ?_
    refine lv_iconst (v := nI 1) hx hb dM_match_14 (by decide) ?_
    refine pw_call (F := mW mo sa ea) (va_runV (As := [.int (nI 1)]) (rest := []) ⟨hx, hb, hml, hown, htA⟩ (m_raise l G cA mo (mF (nI 0) ao af n lw hg sa ea) (nI 1)) (cwV 1 htA (gd_V wd480 wd482 wd16 wd28 wd483) rfl rfl rfl (by decide +kernel) (by rw [hR]; exact ⟨Nat.le_of_ble_eq_true rfl, Nat.le_of_ble_eq_true rfl⟩)) (pw_V (ci := 4) (q := (RM, TM, 8)) hKN hob rfl ⟨hob, Nat.zero_lt_succ _⟩) rfl rfl hl.1 rfl (lv_room (Nat.le_of_ble_eq_true rfl)) dM_match_15 (by rw [hR]; exact ⟨Nat.le_of_ble_eq_true rfl, Nat.le_of_ble_eq_true rfl⟩)) hL (fun q h => Or.inl h) (fun v9 st9 t9 lc5 h0 ha9 hL hq9 => ?_)
    obtain ⟨hv9, hob1, hz1, hk1⟩ := hq9
    cases hv9
    rw [h0] at hz1 hk1
    generalize t9.heap = H4 at hob1 hz1 hk1 ⊢
    have hob : ob G 4 mo (mF (nI 1) ao af n lw hg sa ea) H4 := hob1
    have hal := al_k hal (hk1 ao hA.1)
    have hab := ai_k hab (hk1 af hA.2.1)
    have hsl := ai_k hsl (hk1 sa hA.2.2.1)
    have hel := ai_k hel (hk1 ea hA.2.2.2.1)
    have hk : ∀ q, q ≠ mo → q ≠ sa → q ≠ ea → H4[q]? = s.heap[q]? := fun q h1 h2 h3 => (hk1 q h1).trans (hk q h1 h2 h3)
    have hz := hz1.trans hz
    rw [hQ]
    exact W.iret (v := 0) hx hb hrt (fun t ht hW => ⟨_, (nI 1), rfl, (Or.inl ⟨hq, rfl⟩), ⟨lw, hg, fS, fE, by rw [ht]; exact ⟨hob, hal, hab, hsl, hel⟩⟩, by rw [ht]; exact hz, by rw [ht]; exact hk⟩) hL dM_match_18
end
section
section PN
variable {p : Program} {l : Launch} {e : Env} {R : Room} {s : State} {m : MethodId} {args : Array Value} {below : List Frame} {meth : Method} {c : Code} {H : Heap} {locs : List Loc} {cells slots : Nat} {Q : State → Prop}
variable {cc : ByteArray} {pc : Nat} {ls : Array Slot} {rest : List Value} {G : va_G} {tys : List (ClassId × FieldType)} {cA : ClassId} {a n : Nat}
theorem pw_putF (hexec : p.tables.exec = Jvm.exec) (hb : c.code = cc) {own ref C : String} {T : u_T} {N ci index : Nat} {Ts : List Cond} (hts : ∀ w ∈ Ts, w.before args s = true) (hin : ∀ w ∈ u_ws C T N, w ∈ Ts) (ty0 : Nat → FieldType) (hty : ∀ k, k < N → parseFieldDescriptor (T k).2.2.1 = some (ty0 k)) (hnm : ∀ a, a < N → ∀ b, b < N → a ≠ b → (T a).2.1 ≠ (T b).2.1) (hown : s.vm.findClass own = some m.cls) (hK : va_K G vwCl tys s) {fs : List Value} (h : ob G ci a fs H) (hc : vwCl[ci]? = some (C, T, N)) (k : Nat) (hk : k < N) (hlink : (Cond.fieldLink own index ref (T k).2.1 (T k).2.2.1).before args s = true) (hsame : ∀ x, s.fieldFound? (T k).1 (T k).2.1 (T k).2.2.1 = some x → s.fieldFound? ref (T k).2.1 (T k).2.2.1 = some x) (hfin : (T k).2.2.2 = true) (hin2 : meth.name = "<init>") (hdecl : (T k).1 = own) {ty : FieldType} {v : Value} (hd : parseFieldDescriptor (T k).2.2.1 = some ty) (hn : narrow ty v = v) (hfit : fits ty v = true) (hl : k < fs.length)
    {F : Nat → Prop} (hF : ∀ z ∈ locs, F z.base) (hFa : F a) (hdg : decode cc pc = .ok (.putfield index, 3)) (kk : ∀ (H1 : Heap) (locs1 : List Loc), ob G ci a (fs.set k v) H1 → H1.size = H.size → (∀ q, q ≠ a → H1[q]? = H[q]?) → (∀ z ∈ locs1, F z.base) → W p l e R s m args below meth c H1 locs1 cells slots Q (F0 m (pc + 3) ls rest)) : W p l e R s m args below meth c H locs cells slots Q (F0 m pc ls (v :: .ref a :: rest)) := by
  have hap := va_apart (own := own) hts hin ty0 hty hnm hK hc
  obtain ⟨r, h1, cell, q1, q2, q3, q4⟩ := h
  have hr : r = (C, T, N) := Option.some.inj (h1.symm.trans hc)
  subst hr
  obtain ⟨hS, hfc, kC, hkC, hkind⟩ := hK.1 ci _ hc
  obtain ⟨cf, kf, fi, f, hi, hsl⟩ := hS k hk
  have hlay := hts _ (hin _ (u_in_lay hk))
  unfold u_lay at hlay
  rw [if_pos hfin] at hlay
  have hst := (u_facts hfc hkC (u_lays hts hin hk) hi).1
  have hcf : m.cls = cf := by
    obtain ⟨_, _, c', _, _, _, -, -, hf', -, -, -, hown2, -⟩ := Cond.laysFinal_spec hlay
    have e1 : c' = cf := by have := hi.symm.trans hf'; simp at this; exact this.1.symm
    rw [hdecl] at hown2
    rw [← e1]; exact Option.some.inj (hown.symm.trans hown2)
  have h6 := u_fits hfc hkC hkind (Or.inr hlay) hi hd hn hfit
  refine W.putFinK hexec hb hown hlink (hsame _ hi) hst hcf hin2 (by rw [q2]; exact h6) q1 q3 (by rw [hsl]; exact k2_hasslot (q4 k hk)) rfl rfl hdg fun H' e1 e2 e3 => ?_
  rw [hsl] at e1 ⊢
  exact kk H' _ ⟨_, hc, t_OB.to (V := updV (vp_V fs) k v) ⟨_, e1, q2, q3, t_set q4 hap hk v⟩ (fun j _ => vp_updV_set hl v j)⟩ e2 e3 (t_lc hF hFa)
theorem pn_o (hexec : p.tables.exec = Jvm.exec) (hb : c.code = cc) {own C : String} {T : u_T} {N ci index : Nat} {Ts : List Cond} (hts : ∀ w ∈ Ts, w.before args s = true) (hin : ∀ w ∈ u_ws C T N, w ∈ Ts) (ty : Nat → FieldType) (hty : ∀ k, k < N → parseFieldDescriptor (T k).2.2.1 = some (ty k)) (hown : s.vm.findClass own = some m.cls) (hcl : (Cond.classLink own index C).before args s = true) (hinst : (Cond.instantiable C N).before args s = true) (hini : (Cond.initialized C).before args s = true)
    (hK : va_K G vwCl tys s) (hc : vwCl[ci]? = some (C, T, N)) {fs : List Value} (hfs : ∀ j, j < N → defaultValue (ty j) = vp_V fs j) (hcells : cells + 1 ≤ R.cells) (hslots : slots + N ≤ R.slots) (hdg : decode cc pc = .ok (.new index, 3))
    (kk : ∀ (H1 : Heap) (q : Nat), q = H.size → ob G ci q fs H1 → H1.size = H.size + 1 → (∀ x, x < H.size → H1[x]? = H[x]?) →
      W p l e R s m args below meth c H1 locs (cells + 1) (slots + N) Q (F0 m (pc + 3) ls (.ref q :: rest))) : W p l e R s m args below meth c H locs cells slots Q (F0 m pc ls rest) :=
  pw_new hexec hb hts hin ty hty hown hcl hinst hini hK hc hfs hcells hslots hdg (fun H1 h1 h2 h3 => kk H1 H.size rfl h1 h2 h3)
theorem pn_l (hexec : p.tables.exec = Jvm.exec) (hb : c.code = cc) (harr : (Cond.arrayClass .long).before args s = true) (hK : va_K G vwCl tys s) (t0 : Nat) (ht : tys[t0]? = some (cA, .long)) {N : Nat} (hN : N < 67108864) (hcells : cells + 1 ≤ R.cells) (hslots : slots + N ≤ R.slots) (hdg : decode cc pc = .ok (.newarray .long, 2))
    (kk : ∀ (H1 : Heap) (q : Nat), q = H.size → al cA q N (fun _ => 0) H1 → H1.size = H.size + 1 → (∀ x, x < H.size → H1[x]? = H[x]?) →
      W p l e R s m args below meth c H1 locs (cells + 1) (slots + N) Q (F0 m (pc + 2) ls (.ref q :: rest))) : W p l e R s m args below meth c H locs cells slots Q (F0 m pc ls (.int (nI N) :: rest)) :=
  pw_newl hexec hb harr hK t0 ht hN hcells hslots hdg (fun H1 h1 h2 h3 => kk H1 H.size rfl h1 h2 h3)
theorem pn_i (hexec : p.tables.exec = Jvm.exec) (hb : c.code = cc) (harr : (Cond.arrayClass .int).before args s = true) (hK : va_K G vwCl tys s) (t0 : Nat) (ht : tys[t0]? = some (cA, .int)) {N : Nat} (hN : N < 67108864) (hcells : cells + 1 ≤ R.cells) (hslots : slots + N ≤ R.slots) (hdg : decode cc pc = .ok (.newarray .int, 2))
    (kk : ∀ (H1 : Heap) (q : Nat), q = H.size → ai cA q N (fun _ => 0) H1 → H1.size = H.size + 1 → (∀ x, x < H.size → H1[x]? = H[x]?) →
      W p l e R s m args below meth c H1 locs (cells + 1) (slots + N) Q (F0 m (pc + 2) ls (.ref q :: rest))) : W p l e R s m args below meth c H locs cells slots Q (F0 m pc ls (.int (nI N) :: rest)) :=
  pw_newi hexec hb harr hK t0 ht hN hcells hslots hdg (fun H1 h1 h2 h3 => kk H1 H.size rfl h1 h2 h3)
theorem pn_z (hexec : p.tables.exec = Jvm.exec) (hb : c.code = cc) (harr : (Cond.arrayClass .boolean).before args s = true) (hK : va_K G vwCl tys s) (t0 : Nat) (ht : tys[t0]? = some (cA, .boolean)) {N : Nat} (hN : N < 67108864) (hcells : cells + 1 ≤ R.cells) (hslots : slots + N ≤ R.slots) (hdg : decode cc pc = .ok (.newarray .boolean, 2))
    (kk : ∀ (H1 : Heap) (q : Nat), q = H.size → ai cA q N (fun _ => 0) H1 → H1.size = H.size + 1 → (∀ x, x < H.size → H1[x]? = H[x]?) →
      W p l e R s m args below meth c H1 locs (cells + 1) (slots + N) Q (F0 m (pc + 2) ls (.ref q :: rest))) : W p l e R s m args below meth c H locs cells slots Q (F0 m pc ls (.int (nI N) :: rest)) := by
  refine va_newaK (atype := .boolean) hexec hb harr rfl hdg rfl (nI_pos (by omega)) (nI_clamp (by omega)) (by show N * 1 ≤ 536870912; omega) hcells hslots rfl fun H1 cB e1 z1 o1 hAr hNm => ?_
  have hc : cB = cA := Option.some.inj (hNm.symm.trans (hK.2 t0 _ ht).2)
  subst hc
  exact kk H1 H.size rfl e1 z1 o1
theorem pn_q (hexec : p.tables.exec = Jvm.exec) (hb : c.code = cc) {own C : String} {index : Nat} (hown : s.vm.findClass own = some m.cls) (hclink : (Cond.classLink own index C).before args s = true) (hover : va_AO C s) (hK : va_K G vwCl tys s) (t0 : Nat) (ht : tys[t0]? = some (cA, .object C)) {N : Nat} (hN : N < 67108864) (hcells : cells + 1 ≤ R.cells) (hslots : slots + N ≤ R.slots) (hdg : decode cc pc = .ok (.anewarray index, 3))
    (kk : ∀ (H1 : Heap) (q : Nat), q = H.size → aq cA q N (fun _ => none) H1 → H1.size = H.size + 1 → (∀ x, x < H.size → H1[x]? = H[x]?) →
      W p l e R s m args below meth c H1 locs (cells + 1) (slots + N) Q (F0 m (pc + 3) ls (.ref q :: rest))) : W p l e R s m args below meth c H locs cells slots Q (F0 m pc ls (.int (nI N) :: rest)) := by
  have hcl : (nI N).toNatClampNeg = N := nI_clamp (by omega)
  refine W.anew hexec hb hown hclink (va_AO.use hover) rfl hdg rfl (nI_pos (by omega)) (by rw [hcl]; omega) hcells (by rw [hcl]; exact hslots) fun cB kA comp h1 h2 h3 h4 => ?_
  obtain ⟨kA2, comp2, g1, g2, g3, g4⟩ := (hK.2 t0 _ ht).2
  have hc : cB = cA := Option.some.inj (h1.symm.trans g4)
  subst hc
  rw [hcl]
  refine kk _ H.size rfl ?_ ?_ ?_
  · show (H.push _)[H.size]? = some (vp_cell _ _)
    rw [vp_cell_q]
    have e1 : ({ cls := cB, slots := Array.replicate N Value.null, vm := .none } : Cell) = arrV cB N (fun _ => Value.null) := arrV_new cB N .null
    rw [e1]
    simp
    rfl
  · simp
  · intro x hx
    rw [Array.getElem?_push, if_neg (Nat.ne_of_lt hx)]
theorem pw_aast (hexec : p.tables.exec = Jvm.exec) (hb : c.code = cc) (hK : va_K G vwCl tys s) {f : Nat → Option Nat} (h : aq cA a n f H) (t0 ci : Nat) {r : vw_C} (ht : tys[t0]? = some (cA, .object r.1)) (hc : vwCl[ci]? = some r) {v : Nat} {vs : List Value} (hv : ob G ci v vs H) {k : Nat} (hk : k < n) (hn : n < 2147483648) {F : Nat → Prop} (hF : ∀ z ∈ locs, F z.base) (hFa : F a) (hdg : decode cc pc = .ok (.aastore, 1))
    (kk : ∀ (H1 : Heap) (locs1 : List Loc), aq cA a n (va_up f k (some v)) H1 → H1.size = H.size → (∀ q, q ≠ a → H1[q]? = H[q]?) → (∀ z ∈ locs1, F z.base) → W p l e R s m args below meth c H1 locs1 cells slots Q (F0 m (pc + 1) ls rest)) : W p l e R s m args below meth c H locs cells slots Q (F0 m pc ls (.ref v :: .int (nI k) :: .ref a :: rest)) := by
  have hin := vp_in_nI hk hn
  have hcl : (nI k).toNatClampNeg = k := nI_clamp (by omega)
  have h0 : ¬ nI k < 0 := fun q => hin (Or.inl q)
  obtain ⟨r', hr', cellV, g1, g2, g3, -⟩ := hv
  have hcls := (hK.1 ci r hc).2
  obtain ⟨kA, comp, k1, k2, k3, -⟩ := (hK.2 t0 _ ht).2
  have hcomp : comp = G.1 ci := Option.some.inj (k3.symm.trans hcls.1)
  subst hcomp
  obtain ⟨kC, hkC, -⟩ := hcls.2
  refine W.aast hexec hb h (fun q h => by cases h) (fun h => by cases h) k1 k2 rfl hkC ⟨h0, by show _ < (arrV _ _ _).slots.size; rw [arrV_size, hcl]; exact hk⟩ g1 (fun q h => by rw [g3] at h; cases h) (by rw [g2]; exact hkC) (by rw [g2]; exact va_assign hcls) rfl rfl hdg fun H1 e1 z oq => ?_
  refine kk H1 _ ?_ z oq (t_lc hF hFa)
  show H1[a]? = some (vp_cell _ _)
  rw [e1, hcl]
  rw [vp_cell_q, vp_cell_q, arrV_store]
  congr 2
  funext q
  by_cases hq : q = k
  · subst hq
    simp [updV, va_up, va_rf]
  · simp [updV, va_up, hq]
end PN
end
section
set_option maxRecDepth 100000 in
set_option maxHeartbeats 4000000 in
theorem m_init (l : Launch) (G : va_G) (cA : Nat → ClassId) (mo : Nat) : Met l yM_init wsM_init ({ frames := 1, cells := 4, slots := 3378, locals := 12 }) (PH G cA [.ref mo] (fun H => (ob G 4 mo [.int 0, .null, .null, .int 0, .long 0, .long 0, .null, .null] H))) (fun _ st o t => o = .returned none ∧ st.heap.size ≤ t.heap.size ∧ (∀ q, q < st.heap.size → q ≠ mo → t.heap[q]? = st.heap[q]?) ∧ (∃ ao af sa ea, st.heap.size ≤ ao ∧ st.heap.size ≤ af ∧ st.heap.size ≤ sa ∧ st.heap.size ≤ ea ∧ mA mo ao af sa ea ∧ mvS G cA mo ao af sa ea 0 (fun _ => 0) (fun _ => 0) 0 0 0 (fun _ => 0) (fun _ => 0) t.heap)) 4 3378 (fun q => q = mo) := by
  refine Met.ofW (cc := cM_init) (maxL := 1) (ret := none) (by decide) rfl ?_
  intro p e s m args below meth c s₁ B hml hv
  obtain ⟨hav, hKN, hob⟩ := hv
  have hK := hKN.1
  have hx := B.exec
  have hb := B.bytes
  have hrt := B.returns
  have htA : ∀ w ∈ ALL, w.before args s = true := fun w h => atoms_spec (ws := wsM_init) B.pre w (List.mem_cons_of_mem _ h)
  have hown : s.vm.findClass RM = some m.cls := findClass_of_methodNamed B.named
  have hlocks := B.notSynchronized
  refine pw_nm (fun R Q hR hQ => ?_)
  refine pw_entry (vs := [.ref mo]) hav (Nat.le_of_ble_eq_true rfl) (fun ls hl => ?_)
  have hl : lv_has ls 1 [(0, .ref mo)] := hl
  have hin : meth.name = "<init>" := (name_of_methodNamed B.named B.method).1
  have hL : ∀ z ∈ ([] : List Loc), (fun q => q = mo) z.base := fun _ h => by cases h
  have hk : ∀ q, q < s.heap.size → q ≠ mo → s.heap[q]? = s.heap[q]? := fun _ _ _ => rfl
  have hz : s.heap.size ≤ s.heap.size := Nat.le_refl _
  have hlt := ob_lt hob
  refine lv_aload_n hx hb dM_init_0 rfl (lv_at hl 0 rfl) ?_
  refine W.objInit hx hb hown (htA _ wd434) (htA _ wd45) (htA _ wd46) rfl (by rw [hml]; exact hl.1) rfl dM_init_1 (by rw [hR]; exact Nat.le_of_ble_eq_true rfl) (by rw [hR]; exact Nat.le_of_ble_eq_true rfl) ?_
  refine W.eq (g2 := F0 m 4 ls []) rfl ?_
  refine lv_aload_n hx hb dM_init_4 rfl (lv_at hl 0 rfl) ?_
  refine lv_sipush (v := nI 3200) hx hb dM_init_5 (by decide) ?_
  refine pn_l hx hb (htA _ wd62) hK 0 rfl (by decide) (by rw [hR]; exact Nat.le_of_ble_eq_true rfl) (by rw [hR]; exact Nat.le_of_ble_eq_true rfl) dM_init_8 (fun H1 ao eao hal hz1 hk1 => ?_)
  have hob := ob_k hob (hk1 mo (by omega))
  have hk : ∀ q, q < s.heap.size → q ≠ mo → H1[q]? = s.heap[q]? := fun q h1 h2 => (hk1 q (by omega)).trans (hk q h1 h2)
  have hz : s.heap.size ≤ H1.size := by omega
  refine pw_putF (ci := 4) (C := RM) (T := TM) (N := 8) (ty := .array .long) (F := fun q => q = mo) hx hb htA inM tyM tyM_ok nmM hown hK hob rfl 1 (by decide) (htA _ wd436) (fun _ h9 => h9) rfl hin rfl (by decide +kernel) rfl rfl (Nat.le_of_ble_eq_true rfl) hL rfl dM_init_10 (fun H2 lc3 hob1 hz1 hk1 hL => ?_)
  have hob : ob G 4 mo [.int 0, .ref ao, .null, .int 0, .long 0, .long 0, .null, .null] H2 := hob1
  have hal := al_k hal (hk1 ao (by omega))
  have hk : ∀ q, q < s.heap.size → q ≠ mo → H2[q]? = s.heap[q]? := fun q h1 h2 => (hk1 q h2).trans (hk q h1 h2)
  have hz : s.heap.size ≤ H2.size := by omega
  refine lv_aload_n hx hb dM_init_13 rfl (lv_at hl 0 rfl) ?_
  refine lv_bipush (v := nI 50) hx hb dM_init_14 (by decide) ?_
  refine pn_z hx hb (htA _ wd460) hK 3 rfl (by decide) (by rw [hR]; exact Nat.le_of_ble_eq_true rfl) (by rw [hR]; exact Nat.le_of_ble_eq_true rfl) dM_init_16 (fun H4 af eaf hab hz1 hk1 => ?_)
  have hob := ob_k hob (hk1 mo (by omega))
  have hal := al_k hal (hk1 ao (by omega))
  have hk : ∀ q, q < s.heap.size → q ≠ mo → H4[q]? = s.heap[q]? := fun q h1 h2 => (hk1 q (by omega)).trans (hk q h1 h2)
  have hz : s.heap.size ≤ H4.size := by omega
  refine pw_putF (ci := 4) (C := RM) (T := TM) (N := 8) (ty := .array .boolean) (F := fun q => q = mo) hx hb htA inM tyM tyM_ok nmM hown hK hob rfl 2 (by decide) (htA _ wd437) (fun _ h9 => h9) rfl hin rfl (by decide +kernel) rfl rfl (Nat.le_of_ble_eq_true rfl) hL rfl dM_init_18 (fun H5 lc6 hob1 hz1 hk1 hL => ?_)
  have hob : ob G 4 mo [.int 0, .ref ao, .ref af, .int 0, .long 0, .long 0, .null, .null] H5 := hob1
  have hal := al_k hal (hk1 ao (by omega))
  have hab := ai_k hab (hk1 af (by omega))
  have hk : ∀ q, q < s.heap.size → q ≠ mo → H5[q]? = s.heap[q]? := fun q h1 h2 => (hk1 q h2).trans (hk q h1 h2)
  have hz : s.heap.size ≤ H5.size := by omega
  refine lv_aload_n hx hb dM_init_21 rfl (lv_at hl 0 rfl) ?_
  refine lv_bipush (v := nI 64) hx hb dM_init_22 (by decide) ?_
  refine pn_i hx hb (htA _ wd377) hK 1 rfl (by decide) (by rw [hR]; exact Nat.le_of_ble_eq_true rfl) (by rw [hR]; exact Nat.le_of_ble_eq_true rfl) dM_init_24 (fun H7 sa esa hsl hz1 hk1 => ?_)
  have hob := ob_k hob (hk1 mo (by omega))
  have hal := al_k hal (hk1 ao (by omega))
  have hab := ai_k hab (hk1 af (by omega))
  have hk : ∀ q, q < s.heap.size → q ≠ mo → H7[q]? = s.heap[q]? := fun q h1 h2 => (hk1 q (by omega)).trans (hk q h1 h2)
  have hz : s.heap.size ≤ H7.size := by omega
  refine pw_putF (ci := 4) (C := RM) (T := TM) (N := 8) (ty := .array .int) (F := fun q => q = mo) hx hb htA inM tyM tyM_ok nmM hown hK hob rfl 6 (by decide) (htA _ wd441) (fun _ h9 => h9) rfl hin rfl (by decide +kernel) rfl rfl (Nat.le_of_ble_eq_true rfl) hL rfl dM_init_26 (fun H8 lc9 hob1 hz1 hk1 hL => ?_)
  have hob : ob G 4 mo [.int 0, .ref ao, .ref af, .int 0, .long 0, .long 0, .ref sa, .null] H8 := hob1
  have hal := al_k hal (hk1 ao (by omega))
  have hab := ai_k hab (hk1 af (by omega))
  have hsl := ai_k hsl (hk1 sa (by omega))
  have hk : ∀ q, q < s.heap.size → q ≠ mo → H8[q]? = s.heap[q]? := fun q h1 h2 => (hk1 q h2).trans (hk q h1 h2)
  have hz : s.heap.size ≤ H8.size := by omega
  refine lv_aload_n hx hb dM_init_29 rfl (lv_at hl 0 rfl) ?_
  refine lv_bipush (v := nI 64) hx hb dM_init_30 (by decide) ?_
  refine pn_i hx hb (htA _ wd377) hK 1 rfl (by decide) (by rw [hR]; exact Nat.le_of_ble_eq_true rfl) (by rw [hR]; exact Nat.le_of_ble_eq_true rfl) dM_init_32 (fun H10 ea eea hel hz1 hk1 => ?_)
  have hob := ob_k hob (hk1 mo (by omega))
  have hal := al_k hal (hk1 ao (by omega))
  have hab := ai_k hab (hk1 af (by omega))
  have hsl := ai_k hsl (hk1 sa (by omega))
  have hk : ∀ q, q < s.heap.size → q ≠ mo → H10[q]? = s.heap[q]? := fun q h1 h2 => (hk1 q (by omega)).trans (hk q h1 h2)
  have hz : s.heap.size ≤ H10.size := by omega
  refine pw_putF (ci := 4) (C := RM) (T := TM) (N := 8) (ty := .array .int) (F := fun q => q = mo) hx hb htA inM tyM tyM_ok nmM hown hK hob rfl 7 (by decide) (htA _ wd442) (fun _ h9 => h9) rfl hin rfl (by decide +kernel) rfl rfl (Nat.le_of_ble_eq_true rfl) hL rfl dM_init_34 (fun H11 lc12 hob1 hz1 hk1 hL => ?_)
  have hob : ob G 4 mo [.int 0, .ref ao, .ref af, .int 0, .long 0, .long 0, .ref sa, .ref ea] H11 := hob1
  have hal := al_k hal (hk1 ao (by omega))
  have hab := ai_k hab (hk1 af (by omega))
  have hsl := ai_k hsl (hk1 sa (by omega))
  have hel := ai_k hel (hk1 ea (by omega))
  have hk : ∀ q, q < s.heap.size → q ≠ mo → H11[q]? = s.heap[q]? := fun q h1 h2 => (hk1 q h2).trans (hk q h1 h2)
  have hz : s.heap.size ≤ H11.size := by omega
  rw [hQ]
  refine W.widen (k := 4) (n := 3378) (by omega) (by omega) ?_
  exact W.vret hx hb hrt (fun t ht hW => ⟨rfl, by rw [ht]; exact hz, by rw [ht]; exact hk, by rw [ht]; exact ⟨ao, af, sa, ea, by omega, by omega, by omega, by omega, ⟨by omega, by omega, by omega, by omega, by omega, by omega, by omega, by omega, by omega, by omega⟩, hob, hal, hab, hsl, hel⟩⟩) hL dM_init_37

set_option maxRecDepth 100000 in
set_option maxHeartbeats 4000000 in
theorem c_Qinit (l : Launch) (G : va_G) (cA : Nat → ClassId) (rs : Nat) : Met l yQ_init wsQ_init ({ frames := 1, cells := 2, slots := 128, locals := 12 }) (PH G cA [.ref rs] (fun H => (ob G 1 rs [.null, .null] H))) (fun _ st o t => o = .returned none ∧ st.heap.size ≤ t.heap.size ∧ (∀ q, q < st.heap.size → q ≠ rs → t.heap[q]? = st.heap[q]?) ∧ (∃ lo hi, st.heap.size ≤ lo ∧ lo < hi ∧ ob G 1 rs [.ref lo, .ref hi] t.heap ∧ al (cA 0) lo 64 (fun _ => 0) t.heap ∧ al (cA 0) hi 64 (fun _ => 0) t.heap)) 2 128 (fun q => q = rs) := by
  refine Met.ofW (cc := cQ_init) (maxL := 1) (ret := none) (by decide) rfl ?_
  intro p e s m args below meth c s₁ B hml hv
  obtain ⟨hav, hKN, hob⟩ := hv
  have hK := hKN.1
  have hx := B.exec
  have hb := B.bytes
  have hrt := B.returns
  have htA : ∀ w ∈ ALL, w.before args s = true := fun w h => atoms_spec (ws := wsQ_init) B.pre w (List.mem_cons_of_mem _ h)
  have hown : s.vm.findClass RQ = some m.cls := findClass_of_methodNamed B.named
  have hlocks := B.notSynchronized
  refine pw_nm (fun R Q hR hQ => ?_)
  refine pw_entry (vs := [.ref rs]) hav (Nat.le_of_ble_eq_true rfl) (fun ls hl => ?_)
  have hl : lv_has ls 1 [(0, .ref rs)] := hl
  have hin : meth.name = "<init>" := (name_of_methodNamed B.named B.method).1
  have hL : ∀ z ∈ ([] : List Loc), (fun q => q = rs) z.base := fun _ h => by cases h
  have hk : ∀ q, q < s.heap.size → q ≠ rs → s.heap[q]? = s.heap[q]? := fun _ _ _ => rfl
  have hz : s.heap.size ≤ s.heap.size := Nat.le_refl _
  have hlt := ob_lt hob
  refine lv_aload_n hx hb dQ_init_0 rfl (lv_at hl 0 rfl) ?_
  refine W.objInit hx hb hown (htA _ wd54) (htA _ wd45) (htA _ wd46) rfl (by rw [hml]; exact hl.1) rfl dQ_init_1 (by rw [hR]; exact Nat.le_of_ble_eq_true rfl) (by rw [hR]; exact Nat.le_of_ble_eq_true rfl) ?_
  refine W.eq (g2 := F0 m 4 ls []) rfl ?_
  refine lv_aload_n hx hb dQ_init_4 rfl (lv_at hl 0 rfl) ?_
  refine lv_bipush (v := nI 64) hx hb dQ_init_5 (by decide) ?_
  refine pn_l hx hb (htA _ wd62) hK 0 rfl (by decide) (by rw [hR]; exact Nat.le_of_ble_eq_true rfl) (by rw [hR]; exact Nat.le_of_ble_eq_true rfl) dQ_init_7 (fun H1 lo elo hlo hz1 hk1 => ?_)
  have hob := ob_k hob (hk1 rs (by omega))
  have hk : ∀ q, q < s.heap.size → q ≠ rs → H1[q]? = s.heap[q]? := fun q h1 h2 => (hk1 q (by omega)).trans (hk q h1 h2)
  have hz : s.heap.size ≤ H1.size := by omega
  refine pw_putF (ci := 1) (C := RQ) (T := TQ) (N := 2) (ty := .array .long) (F := fun q => q = rs) hx hb htA inQ tyQ tyQ_ok nmQ hown hK hob rfl 0 (by decide) (htA _ wd55) (fun _ h9 => h9) rfl hin rfl (by decide +kernel) rfl rfl (Nat.le_of_ble_eq_true rfl) hL rfl dQ_init_9 (fun H2 lc3 hob1 hz1 hk1 hL => ?_)
  have hob : ob G 1 rs [.ref lo, .null] H2 := hob1
  have hlo := al_k hlo (hk1 lo (by omega))
  have hk : ∀ q, q < s.heap.size → q ≠ rs → H2[q]? = s.heap[q]? := fun q h1 h2 => (hk1 q h2).trans (hk q h1 h2)
  have hz : s.heap.size ≤ H2.size := by omega
  refine lv_aload_n hx hb dQ_init_12 rfl (lv_at hl 0 rfl) ?_
  refine lv_bipush (v := nI 64) hx hb dQ_init_13 (by decide) ?_
  refine pn_l hx hb (htA _ wd62) hK 0 rfl (by decide) (by rw [hR]; exact Nat.le_of_ble_eq_true rfl) (by rw [hR]; exact Nat.le_of_ble_eq_true rfl) dQ_init_15 (fun H4 hi ehi hhi hz1 hk1 => ?_)
  have hob := ob_k hob (hk1 rs (by omega))
  have hlo := al_k hlo (hk1 lo (by omega))
  have hk : ∀ q, q < s.heap.size → q ≠ rs → H4[q]? = s.heap[q]? := fun q h1 h2 => (hk1 q (by omega)).trans (hk q h1 h2)
  have hz : s.heap.size ≤ H4.size := by omega
  refine pw_putF (ci := 1) (C := RQ) (T := TQ) (N := 2) (ty := .array .long) (F := fun q => q = rs) hx hb htA inQ tyQ tyQ_ok nmQ hown hK hob rfl 1 (by decide) (htA _ wd56) (fun _ h9 => h9) rfl hin rfl (by decide +kernel) rfl rfl (Nat.le_of_ble_eq_true rfl) hL rfl dQ_init_17 (fun H5 lc6 hob1 hz1 hk1 hL => ?_)
  have hob : ob G 1 rs [.ref lo, .ref hi] H5 := hob1
  have hlo := al_k hlo (hk1 lo (by omega))
  have hhi := al_k hhi (hk1 hi (by omega))
  have hk : ∀ q, q < s.heap.size → q ≠ rs → H5[q]? = s.heap[q]? := fun q h1 h2 => (hk1 q h2).trans (hk q h1 h2)
  have hz : s.heap.size ≤ H5.size := by omega
  rw [hQ]
  refine W.widen (k := 2) (n := 128) (by omega) (by omega) ?_
  exact W.vret hx hb hrt (fun t ht hW => ⟨rfl, by rw [ht]; exact hz, by rw [ht]; exact hk, by rw [ht]; exact ⟨lo, hi, by omega, by omega, hob, hlo, hhi⟩⟩) hL dQ_init_20

set_option maxRecDepth 100000 in
set_option maxHeartbeats 4000000 in
theorem c_Tinit (l : Launch) (G : va_G) (cA : Nat → ClassId) (tb : Nat) : Met l yT_init wsT_init ({ frames := 1, cells := 3, slots := 192, locals := 12 }) (PH G cA [.ref tb] (fun H => (ob G 2 tb [.null, .null, .null, .int 0] H))) (fun _ st o t => o = .returned none ∧ st.heap.size ≤ t.heap.size ∧ (∀ q, q < st.heap.size → q ≠ tb → t.heap[q]? = st.heap[q]?) ∧ (∃ a1 a2 a3, st.heap.size ≤ a1 ∧ a1 < a2 ∧ a2 < a3 ∧ ob G 2 tb [.ref a1, .ref a2, .ref a3, .int (nI 0)] t.heap ∧ ai (cA 1) a1 64 (fun _ => 0) t.heap ∧ ai (cA 1) a2 64 (fun _ => 0) t.heap ∧ ai (cA 1) a3 64 (fun _ => 0) t.heap)) 3 192 (fun q => q = tb) := by
  refine Met.ofW (cc := cT_init) (maxL := 1) (ret := none) (by decide) rfl ?_
  intro p e s m args below meth c s₁ B hml hv
  obtain ⟨hav, hKN, hob⟩ := hv
  have hK := hKN.1
  have hx := B.exec
  have hb := B.bytes
  have hrt := B.returns
  have htA : ∀ w ∈ ALL, w.before args s = true := fun w h => atoms_spec (ws := wsT_init) B.pre w (List.mem_cons_of_mem _ h)
  have hown : s.vm.findClass RT = some m.cls := findClass_of_methodNamed B.named
  have hlocks := B.notSynchronized
  refine pw_nm (fun R Q hR hQ => ?_)
  refine pw_entry (vs := [.ref tb]) hav (Nat.le_of_ble_eq_true rfl) (fun ls hl => ?_)
  have hl : lv_has ls 1 [(0, .ref tb)] := hl
  have hin : meth.name = "<init>" := (name_of_methodNamed B.named B.method).1
  have hL : ∀ z ∈ ([] : List Loc), (fun q => q = tb) z.base := fun _ h => by cases h
  have hk : ∀ q, q < s.heap.size → q ≠ tb → s.heap[q]? = s.heap[q]? := fun _ _ _ => rfl
  have hz : s.heap.size ≤ s.heap.size := Nat.le_refl _
  have hlt := ob_lt hob
  refine lv_aload_n hx hb dT_init_0 rfl (lv_at hl 0 rfl) ?_
  refine W.objInit hx hb hown (htA _ wd359) (htA _ wd45) (htA _ wd46) rfl (by rw [hml]; exact hl.1) rfl dT_init_1 (by rw [hR]; exact Nat.le_of_ble_eq_true rfl) (by rw [hR]; exact Nat.le_of_ble_eq_true rfl) ?_
  refine W.eq (g2 := F0 m 4 ls []) rfl ?_
  refine lv_aload_n hx hb dT_init_4 rfl (lv_at hl 0 rfl) ?_
  refine lv_bipush (v := nI 64) hx hb dT_init_5 (by decide) ?_
  refine pn_i hx hb (htA _ wd377) hK 1 rfl (by decide) (by rw [hR]; exact Nat.le_of_ble_eq_true rfl) (by rw [hR]; exact Nat.le_of_ble_eq_true rfl) dT_init_7 (fun H1 a1 ea1 h1 hz1 hk1 => ?_)
  have hob := ob_k hob (hk1 tb (by omega))
  have hk : ∀ q, q < s.heap.size → q ≠ tb → H1[q]? = s.heap[q]? := fun q h1 h2 => (hk1 q (by omega)).trans (hk q h1 h2)
  have hz : s.heap.size ≤ H1.size := by omega
  refine pw_putF (ci := 2) (C := RT) (T := TT) (N := 4) (ty := .array .int) (F := fun q => q = tb) hx hb htA inT tyT tyT_ok nmT hown hK hob rfl 0 (by decide) (htA _ wd360) (fun _ h9 => h9) rfl hin rfl (by decide +kernel) rfl rfl (Nat.le_of_ble_eq_true rfl) hL rfl dT_init_9 (fun H2 lc3 hob1 hz1 hk1 hL => ?_)
  have hob : ob G 2 tb [.ref a1, .null, .null, .int 0] H2 := hob1
  have h1 := ai_k h1 (hk1 a1 (by omega))
  have hk : ∀ q, q < s.heap.size → q ≠ tb → H2[q]? = s.heap[q]? := fun q h1 h2 => (hk1 q h2).trans (hk q h1 h2)
  have hz : s.heap.size ≤ H2.size := by omega
  refine lv_aload_n hx hb dT_init_12 rfl (lv_at hl 0 rfl) ?_
  refine lv_bipush (v := nI 64) hx hb dT_init_13 (by decide) ?_
  refine pn_i hx hb (htA _ wd377) hK 1 rfl (by decide) (by rw [hR]; exact Nat.le_of_ble_eq_true rfl) (by rw [hR]; exact Nat.le_of_ble_eq_true rfl) dT_init_15 (fun H4 a2 ea2 h2 hz1 hk1 => ?_)
  have hob := ob_k hob (hk1 tb (by omega))
  have h1 := ai_k h1 (hk1 a1 (by omega))
  have hk : ∀ q, q < s.heap.size → q ≠ tb → H4[q]? = s.heap[q]? := fun q h1 h2 => (hk1 q (by omega)).trans (hk q h1 h2)
  have hz : s.heap.size ≤ H4.size := by omega
  refine pw_putF (ci := 2) (C := RT) (T := TT) (N := 4) (ty := .array .int) (F := fun q => q = tb) hx hb htA inT tyT tyT_ok nmT hown hK hob rfl 1 (by decide) (htA _ wd362) (fun _ h9 => h9) rfl hin rfl (by decide +kernel) rfl rfl (Nat.le_of_ble_eq_true rfl) hL rfl dT_init_17 (fun H5 lc6 hob1 hz1 hk1 hL => ?_)
  have hob : ob G 2 tb [.ref a1, .ref a2, .null, .int 0] H5 := hob1
  have h1 := ai_k h1 (hk1 a1 (by omega))
  have h2 := ai_k h2 (hk1 a2 (by omega))
  have hk : ∀ q, q < s.heap.size → q ≠ tb → H5[q]? = s.heap[q]? := fun q h1 h2 => (hk1 q h2).trans (hk q h1 h2)
  have hz : s.heap.size ≤ H5.size := by omega
  refine lv_aload_n hx hb dT_init_20 rfl (lv_at hl 0 rfl) ?_
  refine lv_bipush (v := nI 64) hx hb dT_init_21 (by decide) ?_
  refine pn_i hx hb (htA _ wd377) hK 1 rfl (by decide) (by rw [hR]; exact Nat.le_of_ble_eq_true rfl) (by rw [hR]; exact Nat.le_of_ble_eq_true rfl) dT_init_23 (fun H7 a3 ea3 h3 hz1 hk1 => ?_)
  have hob := ob_k hob (hk1 tb (by omega))
  have h1 := ai_k h1 (hk1 a1 (by omega))
  have h2 := ai_k h2 (hk1 a2 (by omega))
  have hk : ∀ q, q < s.heap.size → q ≠ tb → H7[q]? = s.heap[q]? := fun q h1 h2 => (hk1 q (by omega)).trans (hk q h1 h2)
  have hz : s.heap.size ≤ H7.size := by omega
  refine pw_putF (ci := 2) (C := RT) (T := TT) (N := 4) (ty := .array .int) (F := fun q => q = tb) hx hb htA inT tyT tyT_ok nmT hown hK hob rfl 2 (by decide) (htA _ wd364) (fun _ h9 => h9) rfl hin rfl (by decide +kernel) rfl rfl (Nat.le_of_ble_eq_true rfl) hL rfl dT_init_25 (fun H8 lc9 hob1 hz1 hk1 hL => ?_)
  have hob : ob G 2 tb [.ref a1, .ref a2, .ref a3, .int 0] H8 := hob1
  have h1 := ai_k h1 (hk1 a1 (by omega))
  have h2 := ai_k h2 (hk1 a2 (by omega))
  have h3 := ai_k h3 (hk1 a3 (by omega))
  have hk : ∀ q, q < s.heap.size → q ≠ tb → H8[q]? = s.heap[q]? := fun q h1 h2 => (hk1 q h2).trans (hk q h1 h2)
  have hz : s.heap.size ≤ H8.size := by omega
  refine lv_aload_n hx hb dT_init_28 rfl (lv_at hl 0 rfl) ?_
  refine lv_iconst (v := nI 0) hx hb dT_init_29 (by decide) ?_
  refine pw_put (ci := 2) (C := RT) (T := TT) (N := 4) (ty := .int) (F := fun q => q = tb) hx hb htA inT tyT tyT_ok nmT hown hK hob rfl 3 (by decide) (htA _ wd366) (fun _ h9 => h9) rfl (by decide +kernel) rfl rfl (Nat.le_of_ble_eq_true rfl) hL rfl dT_init_30 (fun H10 lc11 hob1 hz1 hk1 hL => ?_)
  have hob : ob G 2 tb [.ref a1, .ref a2, .ref a3, .int (nI 0)] H10 := hob1
  have h1 := ai_k h1 (hk1 a1 (by omega))
  have h2 := ai_k h2 (hk1 a2 (by omega))
  have h3 := ai_k h3 (hk1 a3 (by omega))
  have hk : ∀ q, q < s.heap.size → q ≠ tb → H10[q]? = s.heap[q]? := fun q h1 h2 => (hk1 q h2).trans (hk q h1 h2)
  have hz : s.heap.size ≤ H10.size := by omega
  rw [hQ]
  refine W.widen (k := 3) (n := 192) (by omega) (by omega) ?_
  exact W.vret hx hb hrt (fun t ht hW => ⟨rfl, by rw [ht]; exact hz, by rw [ht]; exact hk, by rw [ht]; exact ⟨a1, a2, a3, by omega, by omega, by omega, hob, h1, h2, h3⟩⟩) hL dT_init_33

set_option maxRecDepth 100000 in
set_option maxHeartbeats 4000000 in
theorem c_Pinit (l : Launch) (G : va_G) (cA : Nat → ClassId) (po : Nat) (b : Bool) : Met l yP_init wsP_init ({ frames := 1, cells := 1, slots := 64, locals := 12 }) (PH G cA [.ref po, .int (bI b)] (fun H => (ob G 0 po [.int 0, .null, .null] H))) (fun _ st o t => o = .returned none ∧ st.heap.size ≤ t.heap.size ∧ (∀ q, q < st.heap.size → q ≠ po → t.heap[q]? = st.heap[q]?) ∧ (∃ oc, st.heap.size ≤ oc ∧ ob G 0 po [.int (bI b), .ref oc, .null] t.heap ∧ al (cA 0) oc 64 (fun _ => 0) t.heap)) 1 64 (fun q => q = po) := by
  refine Met.ofW (cc := cP_init) (maxL := 2) (ret := none) (by decide) rfl ?_
  intro p e s m args below meth c s₁ B hml hv
  obtain ⟨hav, hKN, hob⟩ := hv
  have hK := hKN.1
  have hx := B.exec
  have hb := B.bytes
  have hrt := B.returns
  have htA : ∀ w ∈ ALL, w.before args s = true := fun w h => atoms_spec (ws := wsP_init) B.pre w (List.mem_cons_of_mem _ h)
  have hown : s.vm.findClass RP = some m.cls := findClass_of_methodNamed B.named
  have hlocks := B.notSynchronized
  refine pw_nm (fun R Q hR hQ => ?_)
  refine pw_entry (vs := [.ref po, .int (bI b)]) hav (Nat.le_of_ble_eq_true rfl) (fun ls hl => ?_)
  have hl : lv_has ls 2 [(0, .ref po), (1, .int (bI b))] := hl
  have hin : meth.name = "<init>" := (name_of_methodNamed B.named B.method).1
  have hL : ∀ z ∈ ([] : List Loc), (fun q => q = po) z.base := fun _ h => by cases h
  have hk : ∀ q, q < s.heap.size → q ≠ po → s.heap[q]? = s.heap[q]? := fun _ _ _ => rfl
  have hz : s.heap.size ≤ s.heap.size := Nat.le_refl _
  have hlt := ob_lt hob
  refine lv_aload_n hx hb dP_init_0 rfl (lv_at hl 0 rfl) ?_
  refine W.objInit hx hb hown (htA _ wd196) (htA _ wd45) (htA _ wd46) rfl (by rw [hml]; exact hl.1) rfl dP_init_1 (by rw [hR]; exact Nat.le_of_ble_eq_true rfl) (by rw [hR]; exact Nat.le_of_ble_eq_true rfl) ?_
  refine W.eq (g2 := F0 m 4 ls []) rfl ?_
  refine lv_aload_n hx hb dP_init_4 rfl (lv_at hl 0 rfl) ?_
  refine lv_iload_n hx hb dP_init_5 rfl (lv_at hl 1 rfl) ?_
  refine pw_putF (ci := 0) (C := RP) (T := TP) (N := 3) (ty := .boolean) (F := fun q => q = po) hx hb htA inP tyP tyP_ok nmP hown hK hob rfl 0 (by decide) (htA _ wd197) (fun _ h9 => h9) rfl hin rfl (by decide +kernel) (bI_nar _) (bI_fit _) (Nat.le_of_ble_eq_true rfl) hL rfl dP_init_6 (fun H1 lc2 hob1 hz1 hk1 hL => ?_)
  have hob : ob G 0 po [.int (bI b), .null, .null] H1 := hob1
  have hk : ∀ q, q < s.heap.size → q ≠ po → H1[q]? = s.heap[q]? := fun q h1 h2 => (hk1 q h2).trans (hk q h1 h2)
  have hz : s.heap.size ≤ H1.size := by omega
  refine lv_aload_n hx hb dP_init_9 rfl (lv_at hl 0 rfl) ?_
  refine lv_bipush (v := nI 64) hx hb dP_init_10 (by decide) ?_
  refine pn_l hx hb (htA _ wd62) hK 0 rfl (by decide) (by rw [hR]; exact Nat.le_of_ble_eq_true rfl) (by rw [hR]; exact Nat.le_of_ble_eq_true rfl) dP_init_12 (fun H3 oc eoc hoc hz1 hk1 => ?_)
  have hob := ob_k hob (hk1 po (by omega))
  have hk : ∀ q, q < s.heap.size → q ≠ po → H3[q]? = s.heap[q]? := fun q h1 h2 => (hk1 q (by omega)).trans (hk q h1 h2)
  have hz : s.heap.size ≤ H3.size := by omega
  refine pw_putF (ci := 0) (C := RP) (T := TP) (N := 3) (ty := .array .long) (F := fun q => q = po) hx hb htA inP tyP tyP_ok nmP hown hK hob rfl 1 (by decide) (htA _ wd199) (fun _ h9 => h9) rfl hin rfl (by decide +kernel) rfl rfl (Nat.le_of_ble_eq_true rfl) hL rfl dP_init_14 (fun H4 lc5 hob1 hz1 hk1 hL => ?_)
  have hob : ob G 0 po [.int (bI b), .ref oc, .null] H4 := hob1
  have hoc := al_k hoc (hk1 oc (by omega))
  have hk : ∀ q, q < s.heap.size → q ≠ po → H4[q]? = s.heap[q]? := fun q h1 h2 => (hk1 q h2).trans (hk q h1 h2)
  have hz : s.heap.size ≤ H4.size := by omega
  refine lv_aload_n hx hb dP_init_17 rfl (lv_at hl 0 rfl) ?_
  refine lv_null hx hb dP_init_18 ?_
  refine pw_put (ci := 0) (C := RP) (T := TP) (N := 3) (ty := .object "PolicyVerifier$Table") (F := fun q => q = po) hx hb htA inP tyP tyP_ok nmP hown hK hob rfl 2 (by decide) (htA _ wd201) (fun _ h9 => h9) rfl (by decide +kernel) rfl rfl (Nat.le_of_ble_eq_true rfl) hL rfl dP_init_19 (fun H6 lc7 hob1 hz1 hk1 hL => ?_)
  have hob : ob G 0 po [.int (bI b), .ref oc, .null] H6 := hob1
  have hoc := al_k hoc (hk1 oc (by omega))
  have hk : ∀ q, q < s.heap.size → q ≠ po → H6[q]? = s.heap[q]? := fun q h1 h2 => (hk1 q h2).trans (hk q h1 h2)
  have hz : s.heap.size ≤ H6.size := by omega
  rw [hQ]
  refine W.widen (k := 1) (n := 64) (by omega) (by omega) ?_
  exact W.vret hx hb hrt (fun t ht hW => ⟨rfl, by rw [ht]; exact hz, by rw [ht]; exact hk, by rw [ht]; exact ⟨oc, by omega, hob, hoc⟩⟩) hL dP_init_22
end
section
def tabOK (T : List (Nat × Nat)) (fp ff pl : Nat → Int32) : Prop := (∀ k, k < T.length → fp k = nI (T.getD k (0, 0)).1 ∧ ff k = nI (3 - (T.getD k (0, 0)).2)) ∧ ∀ x, x < 64 → ∃ k, plR T x k ∧ pl x = nI k
def tabAt (G : va_G) (cA : Nat → ClassId) (t : Nat) (c : Nat × Nat × Nat) (f : Nat → Int64) (H : Heap) : Prop := ∃ fp ff pl, ob G 2 t [.ref c.1, .ref c.2.1, .ref c.2.2, .int (nI (tbl f).length)] H ∧ ai (cA 1) c.1 64 fp H ∧ ai (cA 1) c.2.1 64 ff H ∧ ai (cA 1) c.2.2 64 pl H ∧ tabOK (tbl f) fp ff pl
def pvP (n : Nat) (po : Nat → Nat) : Nat → Option Nat := fun j => if j < n then some (po j) else none
def pvS (G : va_G) (cA : Nat → ClassId) (x pa rs lo hi n : Nat) (F : Nat → Bool) (O : Nat → Nat → Int64) (po oc : Nat → Nat) (tb : Nat → Option Nat) (tc : Nat → Nat × Nat × Nat) (H : Heap) : Prop :=
  ob G 3 x [.ref pa, .ref rs, .int (nI n), .int (nI (dct O n))] H ∧ aq (cA 2) pa 50 (pvP n po) H ∧ ob G 1 rs [.ref lo, .ref hi] H ∧ (∃ f, al (cA 0) lo 64 f H) ∧ (∃ f, al (cA 0) hi 64 f H) ∧
  (∀ i, i < n → ob G 0 (po i) [.int (bI (F i)), .ref (oc i), va_rf (tb i)] H) ∧ (∀ i, i < n → al (cA 0) (oc i) 64 (O i) H) ∧ (∀ i, i < n → ∀ t, tb i = some t → tabAt G cA t (tc i) (O i) H) ∧
  n ≤ 50 ∧ lo ≠ hi ∧ (∀ i, i < n → oc i ≠ lo ∧ oc i ≠ hi) ∧ ∀ i j, i < n → j < n → po i = po j → i = j
def pvN (E : Nat → Prop) (x pa rs lo hi n : Nat) (po oc : Nat → Nat) (tb : Nat → Option Nat) (tc : Nat → Nat × Nat × Nat) : Prop :=
  ¬ E x ∧ ¬ E pa ∧ ¬ E rs ∧ ¬ E lo ∧ ¬ E hi ∧ ∀ i, i < n → ¬ E (po i) ∧ ¬ E (oc i) ∧ ∀ t, tb i = some t → ¬ E t ∧ ¬ E (tc i).1 ∧ ¬ E (tc i).2.1 ∧ ¬ E (tc i).2.2
def PVE (G : va_G) (cA : Nat → ClassId) (E : Nat → Prop) (x n : Nat) (F : Nat → Bool) (O : Nat → Nat → Int64) (H : Heap) : Prop := ∃ pa rs lo hi po oc tb tc, pvS G cA x pa rs lo hi n F O po oc tb tc H ∧ pvN E x pa rs lo hi n po oc tb tc
theorem tabAt_k {G : va_G} {cA : Nat → ClassId} {t : Nat} {c : Nat × Nat × Nat} {f : Nat → Int64} {H H1 : Heap} (h : tabAt G cA t c f H) (h0 : H1[t]? = H[t]?) (h1 : H1[c.1]? = H[c.1]?) (h2 : H1[c.2.1]? = H[c.2.1]?) (h3 : H1[c.2.2]? = H[c.2.2]?) : tabAt G cA t c f H1 := by
  obtain ⟨fp, ff, pl, a, b, d, g, o⟩ := h
  exact ⟨fp, ff, pl, ob_k a h0, ai_k b h1, ai_k d h2, ai_k g h3, o⟩
theorem tabAt_lt {G : va_G} {cA : Nat → ClassId} {t : Nat} {c : Nat × Nat × Nat} {f : Nat → Int64} {H : Heap} (h : tabAt G cA t c f H) : t < H.size ∧ c.1 < H.size ∧ c.2.1 < H.size ∧ c.2.2 < H.size := by
  obtain ⟨fp, ff, pl, a, b, d, g, -⟩ := h
  exact ⟨ob_lt a, ai_lt b, ai_lt d, ai_lt g⟩
theorem pvS_up {G : va_G} {cA : Nat → ClassId} {x pa rs lo hi n : Nat} {F : Nat → Bool} {O : Nat → Nat → Int64} {po oc : Nat → Nat} {tb : Nat → Option Nat} {tc : Nat → Nat × Nat × Nat} {H H1 : Heap} (h : pvS G cA x pa rs lo hi n F O po oc tb tc H) (hk : ∀ q, q < H.size → H1[q]? = H[q]?) : pvS G cA x pa rs lo hi n F O po oc tb tc H1 := by
  obtain ⟨h1, h2, h3, ⟨f, h4⟩, ⟨g, h5⟩, h6, h7, h8, h9, h10, h11, h12⟩ := h
  refine ⟨ob_k h1 (hk _ (ob_lt h1)), aq_k h2 (hk _ (aq_lt h2)), ob_k h3 (hk _ (ob_lt h3)), ⟨f, al_k h4 (hk _ (al_lt h4))⟩, ⟨g, al_k h5 (hk _ (al_lt h5))⟩, fun i hi => ob_k (h6 i hi) (hk _ (ob_lt (h6 i hi))), fun i hi => al_k (h7 i hi) (hk _ (al_lt (h7 i hi))), fun i hi t ht => ?_, h9, h10, h11, h12⟩
  obtain ⟨a, b, c, d⟩ := tabAt_lt (h8 i hi t ht)
  exact tabAt_k (h8 i hi t ht) (hk _ a) (hk _ b) (hk _ c) (hk _ d)
theorem pvS_E {G : va_G} {cA : Nat → ClassId} {E : Nat → Prop} {x pa rs lo hi n : Nat} {F : Nat → Bool} {O : Nat → Nat → Int64} {po oc : Nat → Nat} {tb : Nat → Option Nat} {tc : Nat → Nat × Nat × Nat} {H H1 : Heap} (h : pvS G cA x pa rs lo hi n F O po oc tb tc H) (hN : pvN E x pa rs lo hi n po oc tb tc) (hk : ∀ q, q < H.size → ¬ E q → H1[q]? = H[q]?) : pvS G cA x pa rs lo hi n F O po oc tb tc H1 := by
  obtain ⟨h1, h2, h3, ⟨f, h4⟩, ⟨g, h5⟩, h6, h7, h8, h9, h10, h11, h12⟩ := h
  obtain ⟨n1, n2, n3, n4, n5, n6⟩ := hN
  refine ⟨ob_k h1 (hk _ (ob_lt h1) n1), aq_k h2 (hk _ (aq_lt h2) n2), ob_k h3 (hk _ (ob_lt h3) n3), ⟨f, al_k h4 (hk _ (al_lt h4) n4)⟩, ⟨g, al_k h5 (hk _ (al_lt h5) n5)⟩, fun i hi => ob_k (h6 i hi) (hk _ (ob_lt (h6 i hi)) (n6 i hi).1), fun i hi => al_k (h7 i hi) (hk _ (al_lt (h7 i hi)) (n6 i hi).2.1), fun i hi t ht => ?_, h9, h10, h11, h12⟩
  obtain ⟨a, b, c, d⟩ := tabAt_lt (h8 i hi t ht)
  obtain ⟨e1, e2, e3, e4⟩ := (n6 i hi).2.2 t ht
  exact tabAt_k (h8 i hi t ht) (hk _ a e1) (hk _ b e2) (hk _ c e3) (hk _ d e4)
def ZZ (E : Nat → Prop) (U : State) (H : Heap) : Prop := vx_Zq Bundle.tN "UNASSIGNED_STACK" Bundle.steD (fun q => ¬ E q) U H ∧ vx_Zq Bundle.tN "SUPPRESSED_SENTINEL" Bundle.listD (fun q => ¬ E q) U H
theorem ZZ.mv {E : Nat → Prop} {u U : State} {H : Heap} (hvm : u.vm.Alike U.vm) (h : ZZ E u H) : ZZ E U H := ⟨h.1.moved hvm, h.2.moved hvm⟩
theorem ZZ.k {E : Nat → Prop} {U : State} {H H1 : Heap} (h : ZZ E U H) (hk : ∀ q, q < H.size → E q → H1[q]? = H[q]?) : ZZ E U H1 := ⟨h.1.kept (fun a h1 h2 => hk a h1 (Classical.not_not.mp h2)), h.2.kept (fun a h1 h2 => hk a h1 (Classical.not_not.mp h2))⟩
def PX (G : va_G) (cA : Nat → ClassId) (E : Nat → Prop) (av : List Value) (Pre : Heap → Prop) : Array Value → State → Prop := va_Pc av (fun U => KN G cA U ∧ ZZ E U U.heap ∧ Pre U.heap)
def xR (cond : String → Prop) : String → State → State → Prop := fun X st t => cond X ∧ st.heap.size ≤ t.heap.size ∧ ∀ q, q < st.heap.size → t.heap[q]? = st.heap[q]?
theorem xR_up {cond cond' : String → Prop} {X : String} {st9 t9 s t : State} (h : xR cond X st9 t9) (h0 : st9.heap = s.heap) (hc : cond X → cond' X) (ht : t.heap = t9.heap) : xR cond' X s t := by
  obtain ⟨h1, h2, h3⟩ := h
  rw [h0] at h2 h3
  exact ⟨hc h1, by rw [ht]; exact h2, by rw [ht]; exact h3⟩
section PXS
variable {p : Program} {l : Launch} {e : Env} {R : Room} {s : State} {m : MethodId} {args : Array Value} {below : List Frame} {meth : Method} {c : Code} {H : Heap} {locs : List Loc} {cells slots : Nat} {Q : State → Prop}
variable {cc : ByteArray} {pc : Nat} {ls : Array Slot} {rest : List Value} {G : va_G} {cA : Nat → ClassId} {E : Nat → Prop}
theorem px_bl {av : List Value} {Pre : Heap → Prop} : FrameBlind (PX G cA E av Pre) := fun a U g mk q => ⟨q.1, q.2.1.cl, ZZ.mv (u := U) (U := U.calling g mk a) (Vm.Alike.refl U.vm) q.2.2.1, q.2.2.2⟩
theorem px_S {av : List Value} {Pre : Heap → Prop} (hK : KN G cA s) (hZ : ZZ E s H) (h : Pre H) : PreS s H (PX G cA E av Pre) av := ⟨px_bl, fun U hU hW => ⟨rfl, hK.mv hW, by rw [hU]; exact hZ.mv hW.alike, by rw [hU]; exact h⟩⟩
theorem px_V {av : List Value} {Pre : Heap → Prop} {ci b : Nat} {fs : List Value} {q : vw_C} (hK : KN G cA s) (hZ : ZZ E s H) (ho : ob G ci b fs H) (hc : vwCl[ci]? = some q) (h : Pre H) : PreV s H q.1 b (PX G cA E (.ref b :: av) Pre) av := ⟨px_bl, va_recv hK.1 (ob_P ho) (q0 := 0) hc rfl, fun U hU hW => ⟨rfl, hK.mv hW, by rw [hU]; exact hZ.mv hW.alike, by rw [hU]; exact h⟩⟩
abbrev exN : List String := ["java/lang/RuntimeException", "java/lang/Exception"]
theorem px_thr (hexec : p.tables.exec = Jvm.exec) (hb : c.code = cc) (hl : l.stackTraces = false) {cls : String} {ik ic mc ms : Nat} {free : Addr → Prop} {Qc : Array Value → State → Outcome → State → Prop} {XC : String → State → State → Prop}
    (hown : s.vm.findClass RV = some m.cls) (hcls : Bundle.fit cls = true) (htA : ∀ w ∈ ALL, w.before args s = true) (hKN : KN G cA s) (hk : Cond.classLink RV ik cls ∈ ALL) (hi : Cond.initialized cls ∈ ALL)
    (hw1 : ∀ w ∈ (vx_at0 RV ic cls exN).filter goodWord, w ∈ ALL) (hw2 : ∀ w ∈ (vx_at0 RV ic cls exN).filter (fun w => !goodWord w), w ∈ gnws) (hw3 : ∀ w ∈ Cond.classLink RV ik cls :: Cond.initialized cls :: vx_at0 RV ic cls exN, vx_ot w = true)
    (hZ : ZZ E s s.heap) (hS : va_S (fun q => ¬ E q) s.heap H locs) (hsize : ls.size = c.maxLocals)
    (d0 : decode cc pc = .ok (.new ik, 3)) (d3 : decode cc (pc + 3) = .ok (.dup, 1)) (d4 : decode cc (pc + 4) = .ok (.invokespecial ic, 3)) (d7 : decode cc (pc + 7) = .ok (.athrow, 1))
    (htab : ∀ x ∈ c.exceptionTable.toList, False) (hRf : 5 < R.frames) (hRl : (rest.map fun v => v.category).sum + 81 ≤ R.locals) (hRc : cells + 1 ≤ R.cells) (hRs : slots + 6 ≤ R.slots) (hlocks : meth.locks = false)
    (hx : ∀ t : State, s.vm.Alike t.vm → H.size ≤ t.heap.size → (∀ q : Nat, q < H.size → t.heap[q]? = H[q]?) → XC cls s t)
    (hf : ∀ z ∈ locs, free z.base) (hc : cells + 1 ≤ mc) (hs : slots + 6 ≤ ms) :
    W p l e R s m args below meth c H locs cells slots (vx_MQ below Qc XC args s mc ms free) (F0 m pc ls rest) := by
  refine vx_throw0 hexec hb hl (own := RV) (cls := cls) (names := exN) (ik := ik) (ic := ic) (A := fun q => ¬ E q) hown hcls (by decide +kernel) (htA _ hk) (htA _ hi) (vx_hat (B := gnws) (fun w hw => htA w (hw1 w hw)) hw2 (fun w hw => va_Nw.use (gnws_t w hw) (hKN.2.1 w hw))) hw3 hZ.1 hZ.2 hS hsize d0 d3 d4 d7 (fun x h => (htab x h).elim) hRf hRl hRc hRs hlocks hx hf hc hs
end PXS
theorem tw35a : ∀ w ∈ (vx_at0 RV 35 "java/lang/IllegalArgumentException" exN).filter goodWord, w ∈ ALL := by decide +kernel
theorem tw35b : ∀ w ∈ (vx_at0 RV 35 "java/lang/IllegalArgumentException" exN).filter (fun w => !goodWord w), w ∈ gnws := by decide +kernel
theorem tw35c : ∀ w ∈ Cond.classLink RV 33 "java/lang/IllegalArgumentException" :: Cond.initialized "java/lang/IllegalArgumentException" :: vx_at0 RV 35 "java/lang/IllegalArgumentException" exN, vx_ot w = true := by decide +kernel
theorem tw42a : ∀ w ∈ (vx_at0 RV 42 "java/lang/UnsupportedOperationException" exN).filter goodWord, w ∈ ALL := by decide +kernel
theorem tw42b : ∀ w ∈ (vx_at0 RV 42 "java/lang/UnsupportedOperationException" exN).filter (fun w => !goodWord w), w ∈ gnws := by decide +kernel
theorem tw42c : ∀ w ∈ Cond.classLink RV 40 "java/lang/UnsupportedOperationException" :: Cond.initialized "java/lang/UnsupportedOperationException" :: vx_at0 RV 42 "java/lang/UnsupportedOperationException" exN, vx_ot w = true := by decide +kernel
theorem tw45a : ∀ w ∈ (vx_at0 RV 45 "java/lang/IllegalStateException" exN).filter goodWord, w ∈ ALL := by decide +kernel
theorem tw45b : ∀ w ∈ (vx_at0 RV 45 "java/lang/IllegalStateException" exN).filter (fun w => !goodWord w), w ∈ gnws := by decide +kernel
theorem tw45c : ∀ w ∈ Cond.classLink RV 43 "java/lang/IllegalStateException" :: Cond.initialized "java/lang/IllegalStateException" :: vx_at0 RV 45 "java/lang/IllegalStateException" exN, vx_ot w = true := by decide +kernel
theorem tw97a : ∀ w ∈ (vx_at0 RV 97 "java/util/NoSuchElementException" exN).filter goodWord, w ∈ ALL := by decide +kernel
theorem tw97b : ∀ w ∈ (vx_at0 RV 97 "java/util/NoSuchElementException" exN).filter (fun w => !goodWord w), w ∈ gnws := by decide +kernel
theorem tw97c : ∀ w ∈ Cond.classLink RV 95 "java/util/NoSuchElementException" :: Cond.initialized "java/util/NoSuchElementException" :: vx_at0 RV 97 "java/util/NoSuchElementException" exN, vx_ot w = true := by decide +kernel
end
