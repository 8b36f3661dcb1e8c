/-! what it means that a method, from a place in its code on, comes to an end with Q -/
/-- a value goes back by the return instruction at pc -/
def rtI (k pc : Nat) (v : Option Value) : Prop := match v with
  | none => m_r k = none ∧ decode (m_c k) pc = .ok (.return_, 1)
  | some (.int x) => ∃ ty, m_r k = some ty ∧ narrow ty (.int x) = .int x ∧ decode (m_c k) pc = .ok (.ireturn, 1)
  | some (.long _) => m_r k = some .long ∧ decode (m_c k) pc = .ok (.lreturn, 1)
  | some (.float _) => m_r k = some .float ∧ decode (m_c k) pc = .ok (.freturn, 1)
  | some (.ref _) => (∃ rt, m_r k = some rt ∧ ((∃ n, rt = .object n) ∨ ∃ t, rt = .array t)) ∧ decode (m_c k) pc = .ok (.areturn, 1)
  | some _ => False
/-- the words of a throw -/
def thW (own : String) (ic E : Nat) : List Cond := if E = 3 then vx_atN own ic (m_E E) "java/lang/RuntimeException" ["java/lang/Exception"] else vx_atS own ic (m_E E) ["java/lang/RuntimeException", "java/lang/Exception"]
/-- 'throw new E("..")' stands at pc -/
def thI (k pc E : Nat) : Prop := E < 4 ∧ m_fr k ≥ 6 ∧ m_lo k ≥ 90 ∧ m_hh k = [] ∧ ∃ ik is ic : Nat, (∃ tx : String, (m_o k, is, tx) ∈ m_thr) ∧ Cond.classLink (m_o k) ik (m_E E) ∈ lw_T ∧ Cond.initialized (m_E E) ∈ lw_T ∧
  (∀ w ∈ thW (m_o k) ic E, w ∈ lw_tbl ∧ (goodWord w || isN w) = true) ∧
  (∀ w ∈ Cond.classLink (m_o k) ik (m_E E) :: Cond.initialized (m_E E) :: thW (m_o k) ic E, vx_ot w = true) ∧
  decode (m_c k) pc = .ok (.new ik, 3) ∧ decode (m_c k) (pc + 3) = .ok (.dup, 1) ∧
  ((¬ E = 3 ∧ decode (m_c k) (pc + 4) = .ok (.ldc is, 2) ∧ decode (m_c k) (pc + 6) = .ok (.invokespecial ic, 3) ∧ decode (m_c k) (pc + 9) = .ok (.athrow, 1)) ∨
   (decode (m_c k) (pc + 4) = .ok (.ldc_w is, 3) ∧ decode (m_c k) (pc + 7) = .ok (.invokespecial ic, 3) ∧ decode (m_c k) (pc + 10) = .ok (.athrow, 1)))
/-- the method k runs: machine, code, words, room, and what is owed at its ends -/
def Cx (k : Nat) (p : Program) (l : Launch) (e : Env) (R : Room) (s : State) (m : MethodId) (args : Array Value) (below : List Frame) (meth : Method) (c : Code) (ba : Nat) (D : va_G) (aC xa : Nat → Nat) (Q : mW → mO → Prop) (Qr : State → Prop) : Prop :=
  (p.tables.exec = Jvm.exec ∧ c.code = m_c k ∧ c.maxLocals = m_l k ∧ s.vm.findClass (m_o k) = some m.cls ∧ (∀ w ∈ lw_T, w.before args s = true) ∧ (m_y k).name = meth.name ∧ l.stackTraces = false ∧ meth.locks = false) ∧
  (m_fr k ≤ R.frames ∧ m_lo k ≤ R.locals ∧ va_K D vwCl (m_tys aC) s ∧ ba ≤ s.heap.size ∧ RO ba xa s s.heap ∧ c.exceptionTable.toList = tableOf (m_hh k)) ∧
  (∀ (w' : mW) (v : Option Value) (H' : Heap) (locs' : List Loc) (cells' slots' pc' : Nat) (ls' : Array Slot), Q w' (.inl v) → Sim ba xa aC D w' s H' → va_S (aA ba) s.heap H' locs' → cells' ≤ R.cells → slots' ≤ R.slots → rtI k pc' v → W p l e R s m args below meth c H' locs' cells' slots' Qr (F0 m pc' ls' (v.map (trv ba xa)).toList)) ∧
  (∀ (w' : mW) (E : Nat) (q : Addr) (ce : Cell) (H' : Heap) (locs' : List Loc) (cells' slots' pc' : Nat) (ls' : Array Slot) (rest : List Value), Q w' (.inr E) → Sim ba xa aC D w' s H' → va_S (aA ba) s.heap H' locs' → cells' ≤ R.cells → slots' ≤ R.slots → E < 4 → H'[q]? = some ce → ce.vm = .none → s.vm.findClass (m_E E) = some ce.cls → m_hh k = [] → vx_W p l e R s m args below meth c H' locs' cells' slots' Qr (F0 m pc' ls' rest) q) ∧
  (∀ (w' : mW) (E : Nat) (H' : Heap) (locs' : List Loc) (cells' slots' pc' : Nat) (ls' : Array Slot) (rest : List Value), Q w' (.inr E) → Sim ba xa aC D w' s H' → va_S (aA ba) s.heap H' locs' → cells' + 1 ≤ R.cells → slots' + 6 ≤ R.slots → ls'.size = c.maxLocals → (rest.map fun v => v.category).sum ≤ 8 → thI k pc' E → W p l e R s m args below meth c H' locs' cells' slots' Qr (F0 m pc' ls' rest))
/-- from pc on, over the locals L, the stack st, the world w, with g new cells and slots at hand, the method k ends with Q -/
def RT (k pc : Nat) (L st : List Value) (w : mW) (g : mG) (Q : mW → mO → Prop) : Prop :=
  ∀ (p : Program) (l : Launch) (e : Env) (R : Room) (s : State) (m : MethodId) (args : Array Value) (below : List Frame) (meth : Method) (c : Code) (ba : Nat) (D : va_G) (aC xa : Nat → Nat) (Qr : State → Prop), Cx k p l e R s m args below meth c ba D aC xa Q Qr →
  ∀ (H : Heap) (locs : List Loc) (cells slots : Nat) (ls : Array Slot), Sim ba xa aC D w s H → va_S (aA ba) s.heap H locs → lrl ba xa (m_l k) ls L → cells + g.1 ≤ R.cells → slots + g.2.1 ≤ R.slots → (g.2.2 = true → ba + w_n w = s.heap.size + cells) →
    W p l e R s m args below meth c H locs cells slots Qr (F0 m pc ls (st.map (trv ba xa)))
theorem RT.mono {k pc : Nat} {L st : List Value} {w : mW} {g : mG} {Q Q' : mW → mO → Prop} (h : RT k pc L st w g Q) (hq : ∀ w' o, Q w' o → Q' w' o) : RT k pc L st w g Q' := by
  intro p l e R s m args below meth c ba D aC xa Qr C
  exact h p l e R s m args below meth c ba D aC xa Qr ⟨C.1, C.2.1, fun w' v H' locs' cells' slots' pc' ls' a => C.2.2.1 w' v H' locs' cells' slots' pc' ls' (hq _ _ a), fun w' E q ce H' locs' cells' slots' pc' ls' rest a => C.2.2.2.1 w' E q ce H' locs' cells' slots' pc' ls' rest (hq _ _ a), fun w' E H' locs' cells' slots' pc' ls' rest a => C.2.2.2.2 w' E H' locs' cells' slots' pc' ls' rest (hq _ _ a)⟩
/-- fewer locals known -/
theorem RT.forget {k pc : Nat} {L L' st : List Value} {w : mW} {g : mG} {Q : mW → mO → Prop} (h : RT k pc L' st w g Q) (hl : L'.length = L.length) (hs : ∀ (n : Nat) (v : Value), L'[n]? = some v → v ≠ .null → L[n]? = some v) : RT k pc L st w g Q := by
  intro p l e R s m args below meth c ba D aC xa Qr C H locs cells slots ls hM hS hL h1 h2 h3
  exact h p l e R s m args below meth c ba D aC xa Qr C H locs cells slots ls hM hS (hL.le hl hs) h1 h2 h3
def l_le : List Value → List Value → Prop
  | [], [] => True
  | a :: l, b :: m => (a = .null ∨ a = b) ∧ l_le l m
  | _, _ => False
theorem l_le_of : ∀ (L' L : List Value), l_le L' L → L'.length = L.length ∧ ∀ (n : Nat) (v : Value), L'[n]? = some v → v ≠ .null → L[n]? = some v
  | [], [], _ => ⟨rfl, fun n v h => by simp at h⟩
  | a :: l, b :: m, h => by
    obtain ⟨h1, h2⟩ := l_le_of l m h.2
    refine ⟨by simp [h1], fun n v hn hv => ?_⟩
    cases n with
    | zero =>
      simp at hn; subst hn
      rcases h.1 with h3 | h3
      · exact absurd h3 hv
      · simp [h3]
    | succ n => simpa using h2 n v (by simpa using hn) hv
  | [], _ :: _, h => h.elim
  | _ :: _, [], h => h.elim
theorem RT.le {k pc : Nat} {L L' st : List Value} {w : mW} {g : mG} {Q : mW → mO → Prop} (h : RT k pc L' st w g Q) (hl : l_le L' L) : RT k pc L st w g Q := h.forget (l_le_of L' L hl).1 (l_le_of L' L hl).2
theorem RT.gas {k pc : Nat} {L st : List Value} {w : mW} {g g' : mG} {Q : mW → mO → Prop} (h : RT k pc L st w g' Q) (h1 : g'.1 ≤ g.1) (h2 : g'.2.1 ≤ g.2.1) (h3 : g'.2.2 = false) : RT k pc L st w g Q := by
  intro p l e R s m args below meth c ba D aC xa Qr C H locs cells slots ls hM hS hL a b _
  exact h p l e R s m args below meth c ba D aC xa Qr C H locs cells slots ls hM hS hL (by omega) (by omega) (fun q => by rw [h3] at q; cases q)
theorem W.sz {p : Program} {l : Launch} {e : Env} {R : Room} {s : State} {m : MethodId} {args : Array Value} {below : List Frame} {meth : Method} {c : Code} {H : Heap} {locs : List Loc} {cells slots : Nat} {Q : State → Prop} {g : JFrame} (h : H.size ≤ s.heap.size + cells → W p l e R s m args below meth c H locs cells slots Q g) : W p l e R s m args below meth c H locs cells slots Q g :=
  fun T hT X => h (by rw [← hT]; exact X.heapSize) T hT X
theorem W.tight {p : Program} {l : Launch} {e : Env} {R : Room} {s : State} {m : MethodId} {args : Array Value} {below : List Frame} {meth : Method} {c : Code} {H : Heap} {locs : List Loc} {cells cells' slots : Nat} {Q : State → Prop} {g : JFrame} (hh : H.size ≤ s.heap.size + cells') (h : W p l e R s m args below meth c H locs cells' slots Q g) : W p l e R s m args below meth c H locs cells slots Q g := by
  intro T hT X
  refine h T hT { X with same := ?_ }
  obtain ⟨a1, a2, a3, a4, a5, a6⟩ := X.same
  refine ⟨a1, a2, ?_, a4, a5, a6⟩
  show T.heap.size ≤ _
  rw [hT]; exact hh
theorem wls_K {w : mW} {n : Nat} (h : w_n w ≤ n) (h3 : ∀ a, 100 + w_n w ≤ a → 50 ≤ (w_sh w a).1) : wls (s_K w n) = wls w := by
  have e : n = w_n w + (n - w_n w) := by omega
  show (List.range n).filter (lv w) = (List.range (w_n w)).filter (lv w)
  rw [e, List.range_add, List.filter_append]
  have : ((List.range (n - w_n w)).map (w_n w + ·)).filter (lv w) = [] := by
    rw [List.filter_eq_nil_iff]
    intro x hx
    obtain ⟨y, -, rfl⟩ := List.mem_map.mp hx
    have := h3 (100 + (w_n w + y)) (by omega)
    simp only [lv, decide_eq_true_eq]
    omega
  rw [this, List.append_nil]
/-- the next cell's place is told by the heap's size -/
theorem RT.sync {k pc : Nat} {L st : List Value} {w : mW} {c n : Nat} {Q : mW → mO → Prop} (h : ∀ q, w_n w ≤ q → RT k pc L st (s_K w q) (c, n, true) Q) : RT k pc L st w (c, n, false) Q := by
  intro p l e R s m args below meth c' ba D aC xa Qr C H locs cells slots ls hM hS hL a b _
  refine W.sz fun hsz => ?_
  obtain ⟨m1, m2, m3, m4, m6, m7, m8, m9⟩ := hM
  refine W.tight (cells' := H.size - s.heap.size) (by have := hS.1; omega) ?_
  have hq : w_n w ≤ H.size - ba := by omega
  have hM' : Sim ba xa aC D (s_K w (H.size - ba)) s H := by
    refine ⟨?_, m2, fun a ha => m3 a (by have : 100 + (H.size - ba) ≤ a := ha; omega), by show ba + (H.size - ba) ≤ _; omega, m6, m7, m8, m9⟩
    have e : wld ba xa aC (s_K w (H.size - ba)) = wld ba xa aC w := by
      rw [wld, wld, wls_K hq m3]
      rfl
    rw [e]
    exact m1
  exact h _ hq p l e R s m args below meth c' ba D aC xa Qr C H locs _ slots ls hM' hS hL (by show _ + c ≤ _; have : cells + c ≤ R.cells := a; omega) b (fun _ => by show ba + (H.size - ba) = _; have := hS.1; omega)
/-- a call of the method k -/
def CT (k : Nat) (args : List Value) (w : mW) (Q : mW → mO → Prop) : Prop := (l_in args).length ≤ m_l k ∧ RT k 0 (l_en k args) [] w (m_gc k, m_gs k, m_al k) Q
theorem CT.mono {k : Nat} {args : List Value} {w : mW} {Q Q' : mW → mO → Prop} (h : CT k args w Q) (hq : ∀ w' o, Q w' o → Q' w' o) : CT k args w Q' := ⟨h.1, h.2.mono hq⟩
/-- where a switch goes -/
def tsw (pc : Nat) (d lo hi : Int) (offs : Array Int) (x : Int32) : Int := if x.toInt < lo ∨ hi < x.toInt then pc + d else pc + offs.getD (x.toInt - lo).toNat 0
/-- the slots that values take -/
def v_ct : List Value → Nat
  | [] => 0
  | a :: l => (if v_c2 a = true then 2 else 1) + v_ct l
/-- WHAT AN INSTRUCTION ASKS: K is what is asked behind it, J at a jump's target, Q at the end -/
def stW (k : Nat) (J : Int → mK) (Q : mW → mO → Prop) (q : PI) (K : mK) : mK := fun L st w g => match q with
  | (pc, i, x, y, z, u, v) => match i with
    | .iload n => match lgt L n with | .int a => K L (.int a :: st) w g | _ => False
    | .iload_n n => match lgt L n.val with | .int a => K L (.int a :: st) w g | _ => False
    | .aload n => match lgt L n with | .ref a => K L (.ref a :: st) w g | _ => False
    | .aload_n n => match lgt L n.val with | .ref a => K L (.ref a :: st) w g | _ => False
    | .lload n => match lgt L n with | .long a => K L (.long a :: st) w g | _ => False
    | .lload_n n => match lgt L n.val with | .long a => K L (.long a :: st) w g | _ => False
    | .dload n => match lgt L n with | .double a => K L (.double a :: st) w g | _ => False
    | .istore n => match st with | .int a :: r => n < L.length ∧ K (lpu L n (.int a)) r w g | _ => False
    | .istore_n n => match st with | .int a :: r => n.val < L.length ∧ K (lpu L n.val (.int a)) r w g | _ => False
    | .astore n => match st with | .ref a :: r => n < L.length ∧ K (lpu L n (.ref a)) r w g | _ => False
    | .astore_n n => match st with | .ref a :: r => n.val < L.length ∧ K (lpu L n.val (.ref a)) r w g | _ => False
    | .lstore n => match st with | .long a :: r => n + 1 < L.length ∧ K (lpw L n (.long a)) r w g | _ => False
    | .lstore_n n => match st with | .long a :: r => n.val + 1 < L.length ∧ K (lpw L n.val (.long a)) r w g | _ => False
    | .dstore n => match st with | .double a :: r => n + 1 < L.length ∧ K (lpw L n (.double a)) r w g | _ => False
    | .iinc n d => match lgt L n with | .int a => n < L.length ∧ K (lpu L n (.int (a + Int32.ofInt d))) st w g | _ => False
    | .iconst d => K L (.int (Int32.ofInt d) :: st) w g
    | .bipush d => K L (.int (Int32.ofInt d) :: st) w g
    | .sipush d => K L (.int (Int32.ofInt d) :: st) w g
    | .lconst d => K L (.long (Int64.ofNat d.val) :: st) w g
    | .fconst _ => K L (.float FP.fconst1 :: st) w g
    | .ldc _ => match y with | 0 => K L (.int (Int32.ofNat z) :: st) w g | _ => K L (.ref x :: st) w g
    | .ldc_w _ => match y with | 0 => K L (.int (Int32.ofNat z) :: st) w g | _ => K L (.ref x :: st) w g
    | .aconst_null => K L (.null :: st) w g
    | .ldc2_w _ => K L (.long (Int64.ofNat z) :: st) w g
    | .iadd => match st with | .int b :: .int a :: r => K L (.int (a + b) :: r) w g | _ => False
    | .isub => match st with | .int b :: .int a :: r => K L (.int (a - b) :: r) w g | _ => False
    | .imul => match st with | .int b :: .int a :: r => K L (.int (a * b) :: r) w g | _ => False
    | .idiv => match st with | .int b :: .int a :: r => ¬ b = 0 ∧ K L (.int (a / b) :: r) w g | _ => False
    | .irem => match st with | .int b :: .int a :: r => ¬ b = 0 ∧ K L (.int (a - a / b * b) :: r) w g | _ => False
    | .iand => match st with | .int b :: .int a :: r => K L (.int (a &&& b) :: r) w g | _ => False
    | .ior => match st with | .int b :: .int a :: r => K L (.int (a ||| b) :: r) w g | _ => False
    | .ixor => match st with | .int b :: .int a :: r => K L (.int (a ^^^ b) :: r) w g | _ => False
    | .ishl => match st with | .int b :: .int a :: r => K L (.int (a <<< (b &&& 31)) :: r) w g | _ => False
    | .ishr => match st with | .int b :: .int a :: r => K L (.int (a >>> (b &&& 31)) :: r) w g | _ => False
    | .iushr => match st with | .int b :: .int a :: r => K L (.int (a.toUInt32 >>> (b.toUInt32 &&& Int32.toUInt32 31)).toInt32 :: r) w g | _ => False
    | .ineg => match st with | .int a :: r => K L (.int (-a) :: r) w g | _ => False
    | .lneg => match st with | .long a :: r => K L (.long (-a) :: r) w g | _ => False
    | .ladd => match st with | .long b :: .long a :: r => K L (.long (a + b) :: r) w g | _ => False
    | .lsub => match st with | .long b :: .long a :: r => K L (.long (a - b) :: r) w g | _ => False
    | .lmul => match st with | .long b :: .long a :: r => K L (.long (a * b) :: r) w g | _ => False
    | .ldiv => match st with | .long b :: .long a :: r => ¬ b = 0 ∧ K L (.long (a / b) :: r) w g | _ => False
    | .lrem => match st with | .long b :: .long a :: r => ¬ b = 0 ∧ K L (.long (a - a / b * b) :: r) w g | _ => False
    | .lxor => match st with | .long b :: .long a :: r => K L (.long (a ^^^ b) :: r) w g | _ => False
    | .lcmp => match st with | .long b :: .long a :: r => K L (.int (lg_cmp a b) :: r) w g | _ => False
    | .dcmp op => match st with | .double b :: .double a :: r => K L (.int (Op.cmpValue (FP.dcmp a b) op) :: r) w g | _ => False
    | .fcmp op => match st with | .float b :: .float a :: r => K L (.int (Op.cmpValue (FP.fcmp a b) op) :: r) w g | _ => False
    | .fdiv => match st with | .float b :: .float a :: r => vf_n32 (FP.fdiv a b) ∧ K L (.float (FP.fdiv a b) :: r) w g | _ => False
    | .i2l => match st with | .int a :: r => K L (.long a.toInt64 :: r) w g | _ => False
    | .i2f => match st with | .int a :: r => K L (.float (FP.i2f a) :: r) w g | _ => False
    | .i2b => match st with | .int a :: r => K L (.int a.toInt8.toInt32 :: r) w g | _ => False
    | .i2c => match st with | .int a :: r => K L (.int (a.toUInt32 % 65536).toInt32 :: r) w g | _ => False
    | .l2i => match st with | .long a :: r => K L (.int a.toInt32 :: r) w g | _ => False
    | .f2d => match st with | .float a :: r => vf_n64 (FP.f2d a) ∧ K L (.double (FP.f2d a) :: r) w g | _ => False
    | .dup => match st with | a :: r => v_c2 a = false ∧ K L (a :: a :: r) w g | _ => False
    | .dup_x1 => match st with | a :: b :: r => v_c2 a = false ∧ v_c2 b = false ∧ K L (a :: b :: a :: r) w g | _ => False
    | .dup2 => match st with | a :: b :: r => v_c2 a = false ∧ v_c2 b = false ∧ K L (a :: b :: a :: b :: r) w g | _ => False
    | .pop => match st with | a :: r => v_c2 a = false ∧ K L r w g | _ => False
    | .ifCond c _ => match st with | .int a :: r => (icm c a 0 → J x L r w g) ∧ (¬ icm c a 0 → K L r w g) | _ => False
    | .if_icmp c _ => match st with | .int b :: .int a :: r => (icm c a b → J x L r w g) ∧ (¬ icm c a b → K L r w g) | _ => False
    | .goto _ => J x L st w g
    | .ifnonnull _ => match st with | .ref _ :: r => J x L r w g | _ => False
    | .checkcast _ => match st with | .ref a :: r => (w_sh w a).1 = x + 1 ∧ K L (.ref a :: r) w g | _ => False
    | .tableswitch d lo hi offs => match st with | .int a :: r => J (tsw pc d lo hi offs a) L r w g | _ => False
    | .getfield _ => match z with
      | 4 => match st with | .ref a :: r => (Nat.lt a 100 → Nat.le 2 a ∧ Nat.lt a 18 ∧ K L (.ref (a + 50) :: r) w g) ∧ (Nat.le 100 a → w_sh w a = (0, 11) ∧ K L (va_rf (w_R w a 0) :: r) w g) | _ => False
      | 5 => match st with | .ref a :: r => (Nat.lt a 100 → Nat.le 2 a ∧ Nat.lt a 18 ∧ K L (.int 0 :: r) w g) ∧ (Nat.le 100 a → w_sh w a = (0, 11) ∧ K L (.int (w_I w a 1) :: r) w g) | _ => False
      | _ => match st with | .ref a :: r => w_sh w a = (0, x) ∧ (match z with | 0 => K L (.int (w_I w a y) :: r) w g | 1 => K L (.long (w_J w a y) :: r) w g | _ => K L (va_rf (w_R w a y) :: r) w g) | _ => False
    | .putfield _ => match z with
      | 0 => match st with | .int b :: .ref a :: r => w_sh w a = (0, x) ∧ K L r (s_I w a y b) g | _ => False
      | 1 => match st with | .long b :: .ref a :: r => w_sh w a = (0, x) ∧ K L r (s_J w a y b) g | _ => False
      | 2 => match st with | .ref b :: .ref a :: r => w_sh w a = (0, x) ∧ K L r (s_R w a y (some b)) g | _ => False
      | _ => match st with | .int b :: .ref a :: r => w_sh w a = (0, x) ∧ (b = 0 ∨ b = 1) ∧ K L r (s_I w a y b) g | _ => False
    | .getstatic _ => match x with
      | 1 => K L (.ref 1 :: st) w g
      | 2 => K L (.int 1 :: st) w g
      | 3 => K L (.ref 40 :: st) w g
      | 4 => K L (.ref 41 :: st) w g
      | _ => K L (.null :: st) w g ∧ K L (.ref 42 :: st) w g
    | .iaload => match st with | .int b :: .ref a :: r => (match x with
        | 50 => a = 0 ∧ vp_in b (w_sh w 0).2 ∧ K L (.int (w_I w 0 b.toNatClampNeg) :: r) w g
        | _ => (w_sh w a).1 = 1 ∧ vp_in b (w_sh w a).2 ∧ K L (.int (w_I w a b.toNatClampNeg) :: r) w g) | _ => False
    | .baload => match x with
      | 60 => match st with | .int b :: .ref a :: r => (a = 40 ∨ a = 41) ∧ vp_in b 100 ∧ K L (.int (if a = 40 then dgO b.toNatClampNeg else dgT b.toNatClampNeg) :: r) w g | _ => False
      | _ => match st with | .int b :: .ref a :: r => (w_sh w a).1 = x + 1 ∧ vp_in b (w_sh w a).2 ∧ K L (.int (w_I w a b.toNatClampNeg) :: r) w g | _ => False
    | .caload => False
    | .laload => match st with | .int b :: .ref a :: r => (match x with
        | 51 => a = 1 ∧ vp_in b 17 ∧ K L (.long (pw10 b.toNatClampNeg) :: r) w g
        | _ => (w_sh w a).1 = 5 ∧ vp_in b (w_sh w a).2 ∧ K L (.long (w_J w a b.toNatClampNeg) :: r) w g) | _ => False
    | .aaload => match st with | .int b :: .ref a :: r => (w_sh w a).1 = x + 1 ∧ vp_in b (w_sh w a).2 ∧ K L (va_rf (w_R w a b.toNatClampNeg) :: r) w g | _ => False
    | .iastore => match st with | .int d :: .int b :: .ref a :: r => (w_sh w a).1 = 1 ∧ vp_in b (w_sh w a).2 ∧ K L r (s_I w a b.toNatClampNeg d) g | _ => False
    | .bastore => match st with | .int d :: .int b :: .ref a :: r => (match x with
        | 1 => (w_sh w a).1 = 2 ∧ vp_in b (w_sh w a).2 ∧ K L r (s_I w a b.toNatClampNeg (vp_nar .boolean d)) g
        | _ => (w_sh w a).1 = 3 ∧ vp_in b (w_sh w a).2 ∧ K L r (s_I w a b.toNatClampNeg (vp_nar .byte d)) g) | _ => False
    | .castore => False
    | .lastore => match st with | .long d :: .int b :: .ref a :: r => (w_sh w a).1 = 5 ∧ vp_in b (w_sh w a).2 ∧ K L r (s_J w a b.toNatClampNeg d) g | _ => False
    | .aastore => match x with
      | 6 => match st with | .ref d :: .int b :: .ref a :: r => (w_sh w a).1 = 7 ∧ vp_in b (w_sh w a).2 ∧ (w_sh w d).1 = 1 ∧ K L r (s_R w a b.toNatClampNeg (some d)) g | _ => False
      | _ => match st with | .ref d :: .int b :: .ref a :: r => (w_sh w a).1 = 6 ∧ vp_in b (w_sh w a).2 ∧ w_sh w d = (0, 2) ∧ K L r (s_R w a b.toNatClampNeg (some d)) g | _ => False
    | .arraylength => match z with
      | 4 => match st with | .ref a :: r => (Nat.lt a 100 → Nat.le 52 a ∧ Nat.lt a 68 ∧ K L (.int (Int32.ofNat (s_len (a - 52))) :: r) w g) ∧ (Nat.le 100 a → (w_sh w a).1 = 3 ∧ K L (.int (Int32.ofNat (w_sh w a).2) :: r) w g) | _ => False
      | _ => match st with | .ref a :: r => (w_sh w a).1 = x + 1 ∧ K L (.int (Int32.ofNat (w_sh w a).2) :: r) w g | _ => False
    | .newarray _ => match st with | .int n :: r => ¬ n < 0 ∧ n.toNatClampNeg ≤ 65536 ∧ 1 ≤ g.1 ∧ n.toNatClampNeg ≤ g.2.1 ∧ (match g.2.2 with
        | true => K L (.ref (100 + w_n w) :: r) (s_N w (x + 1, n.toNatClampNeg)) (g.1 - 1, g.2.1 - n.toNatClampNeg, true)
        | false => ∀ q, w_n w ≤ q → K L (.ref (100 + q) :: r) (s_N (s_K w q) (x + 1, n.toNatClampNeg)) (g.1 - 1, g.2.1 - n.toNatClampNeg, false)) | _ => False
    | .anewarray _ => match st with | .int n :: r => ¬ n < 0 ∧ n.toNatClampNeg ≤ 65536 ∧ 1 ≤ g.1 ∧ n.toNatClampNeg ≤ g.2.1 ∧ (match g.2.2 with
        | true => K L (.ref (100 + w_n w) :: r) (s_N w (x + 1, n.toNatClampNeg)) (g.1 - 1, g.2.1 - n.toNatClampNeg, true)
        | false => ∀ q, w_n w ≤ q → K L (.ref (100 + q) :: r) (s_N (s_K w q) (x + 1, n.toNatClampNeg)) (g.1 - 1, g.2.1 - n.toNatClampNeg, false)) | _ => False
    | .new _ => match z with
      | 0 => 1 ≤ g.1 ∧ (m_cl x).2.2 ≤ g.2.1 ∧ (match g.2.2 with
        | true => K L (.ref (100 + w_n w) :: st) (s_N w (0, x)) (g.1 - 1, g.2.1 - (m_cl x).2.2, true)
        | false => ∀ q, w_n w ≤ q → K L (.ref (100 + q) :: st) (s_N (s_K w q) (0, x)) (g.1 - 1, g.2.1 - (m_cl x).2.2, false))
      | _ => 1 ≤ g.1 ∧ 6 ≤ g.2.1 ∧ v_ct st ≤ 8 ∧ Q w (.inr x)
    | .invokevirtual _ => match z with
      | 3 => match st with | .ref a :: r => 2 ≤ a ∧ a < 18 ∧ v_ct r ≤ 8 ∧ K L (.int (Int32.ofNat (s_len (a - 2))) :: r) w g | _ => False
      | 4 => match st with | .int b :: .ref a :: r => 2 ≤ a ∧ a < 18 ∧ vp_in b (s_len (a - 2)) ∧ v_ct r ≤ 8 ∧ K L (.int (s_ch (a - 2) b.toNatClampNeg) :: r) w g | _ => False
      | 6 => match st with | .ref a :: r => (w_sh w a).1 = x + 1 ∧ (x = 2 → ∀ i, i < (w_sh w a).2 → fits .byte (.int (w_I w a i)) = true) ∧ v_ct r ≤ 8 ∧ 1 ≤ g.1 ∧ (w_sh w a).2 ≤ g.2.1 ∧ (match g.2.2 with
        | true => K L (.ref (100 + w_n w) :: r) (s_C w a) (g.1 - 1, g.2.1 - (w_sh w a).2, true)
        | false => ∀ q, w_n w ≤ q → K L (.ref (100 + q) :: r) (s_C (s_K w q) a) (g.1 - 1, g.2.1 - (w_sh w a).2, false)) | _ => False
      | 7 => match (st.take y).reverse with
        | .ref a :: b => w_sh w a = (0, 12) ∧ y ≤ st.length ∧ v_ct (st.drop y) ≤ 8 ∧ u ≤ g.1 ∧ v ≤ g.2.1 ∧ CT x (.ref a :: b) w (fun w' o => match o with
          | .inl a => (g.2.2 = true → w_n w' = w_n w + u) ∧ K L (a.toList ++ st.drop y) w' (g.1 - u, g.2.1 - v, g.2.2)
          | .inr _ => False)
        | _ => False
      | 8 => match (st.take y).reverse with
        | .ref a :: b => w_sh w a = (0, 12) ∧ y ≤ st.length ∧ v_ct (st.drop y) ≤ 8 ∧ u ≤ g.1 ∧ v ≤ g.2.1 ∧ CT x (.ref a :: b) w (fun w' o => match o with
          | .inl a => (g.2.2 = true → w_n w' = w_n w + u) ∧ K L (a.toList ++ st.drop y) w' (g.1 - u, g.2.1 - v, g.2.2)
          | .inr _ => False)
        | _ => False
      | 9 => match (st.take y).reverse with
        | .ref a :: b => w_sh w a = (0, 12) ∧ y ≤ st.length ∧ v_ct (st.drop y) ≤ 8 ∧ u ≤ g.1 ∧ v ≤ g.2.1 ∧ CT x (.ref a :: b) w (fun w' o => match o with
          | .inl a => (g.2.2 = true → w_n w' = w_n w + u) ∧ K L (a.toList ++ st.drop y) w' (g.1 - u, g.2.1 - v, g.2.2)
          | .inr _ => False)
        | _ => False
      | 21 => match (st.take y).reverse with
        | .ref a :: b => (w_sh w a = (0, 11) ∨ Nat.le 2 a ∧ Nat.lt a 18) ∧ y ≤ st.length ∧ v_ct (st.drop y) ≤ 8 ∧ u ≤ g.1 ∧ v ≤ g.2.1 ∧ CT x (.ref a :: b) w (fun w' o => match o with
          | .inl a => (g.2.2 = true → w_n w' = w_n w + u) ∧ K L (a.toList ++ st.drop y) w' (g.1 - u, g.2.1 - v, g.2.2)
          | .inr _ => False)
        | _ => False
      | _ => match (st.take y).reverse with
        | .ref a :: b => w_sh w a = (0, z - 10) ∧ y ≤ st.length ∧ v_ct (st.drop y) ≤ 8 ∧ u ≤ g.1 ∧ v ≤ g.2.1 ∧ CT x (.ref a :: b) w (fun w' o => match o with
          | .inl a => (g.2.2 = true → w_n w' = w_n w + u) ∧ K L (a.toList ++ st.drop y) w' (g.1 - u, g.2.1 - v, g.2.2)
          | .inr E => match m_hh k with | [] => Q w' (.inr E) | _ => E = 0 ∧ Q w' (.inl (some (.int (Int32.ofInt (-1000))))))
        | _ => False
    | .invokespecial _ => match z with
      | 1 => match st with | .ref _ :: r => v_ct r ≤ 8 ∧ K L r w g | _ => False
      | 6 => match (st.take y).reverse with
        | .ref a :: b => y ≤ st.length ∧ v_ct (st.drop y) ≤ 8 ∧ u ≤ g.1 ∧ v ≤ g.2.1 ∧ CT x (.ref a :: b) w (fun w' o => match o with
          | .inl a => (g.2.2 = true → w_n w' = w_n w + u) ∧ K L (a.toList ++ st.drop y) w' (g.1 - u, g.2.1 - v, g.2.2)
          | .inr _ => False)
        | _ => False
      | 7 => match (st.take y).reverse with
        | .ref a :: b => w_sh w a = (0, 12) ∧ y ≤ st.length ∧ v_ct (st.drop y) ≤ 8 ∧ u ≤ g.1 ∧ v ≤ g.2.1 ∧ CT x (.ref a :: b) w (fun w' o => match o with
          | .inl a => (g.2.2 = true → w_n w' = w_n w + u) ∧ K L (a.toList ++ st.drop y) w' (g.1 - u, g.2.1 - v, g.2.2)
          | .inr _ => False)
        | _ => False
      | _ => match (st.take y).reverse with
        | .ref a :: b => y ≤ st.length ∧ v_ct (st.drop y) ≤ 8 ∧ u ≤ g.1 ∧ v ≤ g.2.1 ∧ (match g.2.2 with
          | true => CT x (.ref a :: b) w (fun w' o => match o with
            | .inl a => w_n w' = w_n w + u ∧ K L (a.toList ++ st.drop y) w' (g.1 - u, g.2.1 - v, true)
            | .inr _ => False)
          | false => ∀ q, w_n w ≤ q → CT x (.ref a :: b) (s_K w q) (fun w' o => match o with
            | .inl a => K L (a.toList ++ st.drop y) w' (g.1 - u, g.2.1 - v, false)
            | .inr _ => False))
        | _ => False
    | .invokestatic _ => match z with
      | 2 => match x with
        | 0 => match st with | .int n :: .int dp :: .ref b :: .int sp :: .ref a :: r => (w_sh w a).1 = 1 ∧ (w_sh w b).1 = 1 ∧ ¬ sp < 0 ∧ ¬ dp < 0 ∧ ¬ n < 0 ∧ sp.toNatClampNeg + n.toNatClampNeg ≤ (w_sh w a).2 ∧ dp.toNatClampNeg + n.toNatClampNeg ≤ (w_sh w b).2 ∧ v_ct r ≤ 8 ∧ K L r (s_A w b (va_cpy (w_I w a) (w_I w b) sp.toNatClampNeg dp.toNatClampNeg n.toNatClampNeg)) g | _ => False
        | _ => match st with | .int n :: .int dp :: .ref b :: .int sp :: .ref a :: r => (w_sh w b).1 = 3 ∧ ¬ sp < 0 ∧ ¬ dp < 0 ∧ ¬ n < 0 ∧ dp.toNatClampNeg + n.toNatClampNeg ≤ (w_sh w b).2 ∧ v_ct r ≤ 8 ∧
            (Nat.lt a 100 → Nat.le 52 a ∧ Nat.lt a 68 ∧ sp.toNatClampNeg + n.toNatClampNeg ≤ s_len (a - 52) ∧ K L r (s_A w b (va_cpy (s_ch (a - 52)) (w_I w b) sp.toNatClampNeg dp.toNatClampNeg n.toNatClampNeg)) g) ∧
            (Nat.le 100 a → (w_sh w a).1 = 3 ∧ (∀ i, i < n.toNatClampNeg → fits .byte (.int (w_I w a (sp.toNatClampNeg + i))) = true) ∧ sp.toNatClampNeg + n.toNatClampNeg ≤ (w_sh w a).2 ∧ K L r (s_A w b (va_cpy (w_I w a) (w_I w b) sp.toNatClampNeg dp.toNatClampNeg n.toNatClampNeg)) g) | _ => False
      | 8 => y ≤ st.length ∧ v_ct (st.drop y) ≤ 8 ∧ u ≤ g.1 ∧ v ≤ g.2.1 ∧ CT x (st.take y).reverse w (fun w' o => match o with
          | .inl a => (g.2.2 = true → w_n w' = w_n w + u) ∧ K L (a.toList ++ st.drop y) w' (g.1 - u, g.2.1 - v, g.2.2)
          | .inr _ => False)
      | _ => y ≤ st.length ∧ v_ct (st.drop y) ≤ 8 ∧ u ≤ g.1 ∧ v ≤ g.2.1 ∧ CT x (st.take y).reverse w (fun w' o => match o with
          | .inl a => (g.2.2 = true → w_n w' = w_n w + u) ∧ K L (a.toList ++ st.drop y) w' (g.1 - u, g.2.1 - v, g.2.2)
          | .inr E => match m_hh k with | [] => Q w' (.inr E) | _ => False)
    | .ireturn => match st with | [.int a] => (match m_r k with | some .int => Q w (.inl (some (.int a))) | some .char => 0 ≤ a.toInt ∧ a.toInt < 65536 ∧ Q w (.inl (some (.int a))) | _ => (a = 0 ∨ a = 1) ∧ Q w (.inl (some (.int a)))) | _ => False
    | .lreturn => match st with | [.long a] => Q w (.inl (some (.long a))) | _ => False
    | .freturn => match st with | [.float a] => Q w (.inl (some (.float a))) | _ => False
    | .areturn => match st with | [.ref a] => Q w (.inl (some (.ref a))) | _ => False
    | .return_ => match st with | [] => Q w (.inl none) | _ => False
    | _ => False
/-- what a stretch of code asks; behind it comes what stands at fin -/
def wpS (k : Nat) (J : Int → mK) (Q : mW → mO → Prop) : List PI → Int → mK
  | [], fin => J fin
  | q :: l, fin => stW k J Q q (wpS k J Q l fin)
