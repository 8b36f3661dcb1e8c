/-! the pure part: what a stretch of code asks, at once -/
theorem stE : (∀ (k pc x y z u v : Nat) (J : Int → mK) (Q : mW → mO → Prop) (K : mK) (L st : List Value) (w : mW) (g : mG) (n : Nat), stW k J Q (pc, .iload n, x, y, z, u, v) K L st w g = (match lgt L n with | .int a => K L (.int a :: st) w g | _ => False)) ∧
  (∀ (k pc x y z u v : Nat) (J : Int → mK) (Q : mW → mO → Prop) (K : mK) (L st : List Value) (w : mW) (g : mG), stW k J Q (pc, .iload_n 0, x, y, z, u, v) K L st w g = (match lgt L 0 with | .int a => K L (.int a :: st) w g | _ => False)) ∧
  (∀ (k pc x y z u v : Nat) (J : Int → mK) (Q : mW → mO → Prop) (K : mK) (L st : List Value) (w : mW) (g : mG), stW k J Q (pc, .iload_n 1, x, y, z, u, v) K L st w g = (match lgt L 1 with | .int a => K L (.int a :: st) w g | _ => False)) ∧
  (∀ (k pc x y z u v : Nat) (J : Int → mK) (Q : mW → mO → Prop) (K : mK) (L st : List Value) (w : mW) (g : mG), stW k J Q (pc, .iload_n 2, x, y, z, u, v) K L st w g = (match lgt L 2 with | .int a => K L (.int a :: st) w g | _ => False)) ∧
  (∀ (k pc x y z u v : Nat) (J : Int → mK) (Q : mW → mO → Prop) (K : mK) (L st : List Value) (w : mW) (g : mG), stW k J Q (pc, .iload_n 3, x, y, z, u, v) K L st w g = (match lgt L 3 with | .int a => K L (.int a :: st) w g | _ => False)) ∧
  (∀ (k pc x y z u v : Nat) (J : Int → mK) (Q : mW → mO → Prop) (K : mK) (L st : List Value) (w : mW) (g : mG) (n : Nat), stW k J Q (pc, .aload n, x, y, z, u, v) K L st w g = (match lgt L n with | .ref a => K L (.ref a :: st) w g | _ => False)) ∧
  (∀ (k pc x y z u v : Nat) (J : Int → mK) (Q : mW → mO → Prop) (K : mK) (L st : List Value) (w : mW) (g : mG), stW k J Q (pc, .aload_n 0, x, y, z, u, v) K L st w g = (match lgt L 0 with | .ref a => K L (.ref a :: st) w g | _ => False)) ∧
  (∀ (k pc x y z u v : Nat) (J : Int → mK) (Q : mW → mO → Prop) (K : mK) (L st : List Value) (w : mW) (g : mG), stW k J Q (pc, .aload_n 1, x, y, z, u, v) K L st w g = (match lgt L 1 with | .ref a => K L (.ref a :: st) w g | _ => False)) ∧
  (∀ (k pc x y z u v : Nat) (J : Int → mK) (Q : mW → mO → Prop) (K : mK) (L st : List Value) (w : mW) (g : mG), stW k J Q (pc, .aload_n 2, x, y, z, u, v) K L st w g = (match lgt L 2 with | .ref a => K L (.ref a :: st) w g | _ => False)) ∧
  (∀ (k pc x y z u v : Nat) (J : Int → mK) (Q : mW → mO → Prop) (K : mK) (L st : List Value) (w : mW) (g : mG), stW k J Q (pc, .aload_n 3, x, y, z, u, v) K L st w g = (match lgt L 3 with | .ref a => K L (.ref a :: st) w g | _ => False)) ∧
  (∀ (k pc x y z u v : Nat) (J : Int → mK) (Q : mW → mO → Prop) (K : mK) (L st : List Value) (w : mW) (g : mG) (n : Nat), stW k J Q (pc, .lload n, x, y, z, u, v) K L st w g = (match lgt L n with | .long a => K L (.long a :: st) w g | _ => False)) ∧
  (∀ (k pc x y z u v : Nat) (J : Int → mK) (Q : mW → mO → Prop) (K : mK) (L st : List Value) (w : mW) (g : mG), stW k J Q (pc, .lload_n 0, x, y, z, u, v) K L st w g = (match lgt L 0 with | .long a => K L (.long a :: st) w g | _ => False)) ∧
  (∀ (k pc x y z u v : Nat) (J : Int → mK) (Q : mW → mO → Prop) (K : mK) (L st : List Value) (w : mW) (g : mG), stW k J Q (pc, .lload_n 1, x, y, z, u, v) K L st w g = (match lgt L 1 with | .long a => K L (.long a :: st) w g | _ => False)) ∧
  (∀ (k pc x y z u v : Nat) (J : Int → mK) (Q : mW → mO → Prop) (K : mK) (L st : List Value) (w : mW) (g : mG), stW k J Q (pc, .lload_n 2, x, y, z, u, v) K L st w g = (match lgt L 2 with | .long a => K L (.long a :: st) w g | _ => False)) ∧
  (∀ (k pc x y z u v : Nat) (J : Int → mK) (Q : mW → mO → Prop) (K : mK) (L st : List Value) (w : mW) (g : mG), stW k J Q (pc, .lload_n 3, x, y, z, u, v) K L st w g = (match lgt L 3 with | .long a => K L (.long a :: st) w g | _ => False)) ∧
  (∀ (k pc x y z u v : Nat) (J : Int → mK) (Q : mW → mO → Prop) (K : mK) (L st : List Value) (w : mW) (g : mG) (n : Nat), stW k J Q (pc, .dload n, x, y, z, u, v) K L st w g = (match lgt L n with | .double a => K L (.double a :: st) w g | _ => False)) ∧
  (∀ (k pc x y z u v : Nat) (J : Int → mK) (Q : mW → mO → Prop) (K : mK) (L st : List Value) (w : mW) (g : mG) (n : Nat), stW k J Q (pc, .istore n, x, y, z, u, v) K L st w g = (match st with | .int a :: r => n < L.length ∧ K (lpu L n (.int a)) r w g | _ => False)) ∧
  (∀ (k pc x y z u v : Nat) (J : Int → mK) (Q : mW → mO → Prop) (K : mK) (L st : List Value) (w : mW) (g : mG), stW k J Q (pc, .istore_n 0, x, y, z, u, v) K L st w g = (match st with | .int a :: r => 0 < L.length ∧ K (lpu L 0 (.int a)) r w g | _ => False)) ∧
  (∀ (k pc x y z u v : Nat) (J : Int → mK) (Q : mW → mO → Prop) (K : mK) (L st : List Value) (w : mW) (g : mG), stW k J Q (pc, .istore_n 1, x, y, z, u, v) K L st w g = (match st with | .int a :: r => 1 < L.length ∧ K (lpu L 1 (.int a)) r w g | _ => False)) ∧
  (∀ (k pc x y z u v : Nat) (J : Int → mK) (Q : mW → mO → Prop) (K : mK) (L st : List Value) (w : mW) (g : mG), stW k J Q (pc, .istore_n 2, x, y, z, u, v) K L st w g = (match st with | .int a :: r => 2 < L.length ∧ K (lpu L 2 (.int a)) r w g | _ => False)) ∧
  (∀ (k pc x y z u v : Nat) (J : Int → mK) (Q : mW → mO → Prop) (K : mK) (L st : List Value) (w : mW) (g : mG), stW k J Q (pc, .istore_n 3, x, y, z, u, v) K L st w g = (match st with | .int a :: r => 3 < L.length ∧ K (lpu L 3 (.int a)) r w g | _ => False)) ∧
  (∀ (k pc x y z u v : Nat) (J : Int → mK) (Q : mW → mO → Prop) (K : mK) (L st : List Value) (w : mW) (g : mG) (n : Nat), stW k J Q (pc, .astore n, x, y, z, u, v) K L st w g = (match st with | .ref a :: r => n < L.length ∧ K (lpu L n (.ref a)) r w g | _ => False)) ∧
  (∀ (k pc x y z u v : Nat) (J : Int → mK) (Q : mW → mO → Prop) (K : mK) (L st : List Value) (w : mW) (g : mG), stW k J Q (pc, .astore_n 0, x, y, z, u, v) K L st w g = (match st with | .ref a :: r => 0 < L.length ∧ K (lpu L 0 (.ref a)) r w g | _ => False)) ∧
  (∀ (k pc x y z u v : Nat) (J : Int → mK) (Q : mW → mO → Prop) (K : mK) (L st : List Value) (w : mW) (g : mG), stW k J Q (pc, .astore_n 1, x, y, z, u, v) K L st w g = (match st with | .ref a :: r => 1 < L.length ∧ K (lpu L 1 (.ref a)) r w g | _ => False)) ∧
  (∀ (k pc x y z u v : Nat) (J : Int → mK) (Q : mW → mO → Prop) (K : mK) (L st : List Value) (w : mW) (g : mG), stW k J Q (pc, .astore_n 2, x, y, z, u, v) K L st w g = (match st with | .ref a :: r => 2 < L.length ∧ K (lpu L 2 (.ref a)) r w g | _ => False)) ∧
  (∀ (k pc x y z u v : Nat) (J : Int → mK) (Q : mW → mO → Prop) (K : mK) (L st : List Value) (w : mW) (g : mG), stW k J Q (pc, .astore_n 3, x, y, z, u, v) K L st w g = (match st with | .ref a :: r => 3 < L.length ∧ K (lpu L 3 (.ref a)) r w g | _ => False)) ∧
  (∀ (k pc x y z u v : Nat) (J : Int → mK) (Q : mW → mO → Prop) (K : mK) (L st : List Value) (w : mW) (g : mG) (n : Nat), stW k J Q (pc, .lstore n, x, y, z, u, v) K L st w g = (match st with | .long a :: r => n + 1 < L.length ∧ K (lpw L n (.long a)) r w g | _ => False)) ∧
  (∀ (k pc x y z u v : Nat) (J : Int → mK) (Q : mW → mO → Prop) (K : mK) (L st : List Value) (w : mW) (g : mG), stW k J Q (pc, .lstore_n 0, x, y, z, u, v) K L st w g = (match st with | .long a :: r => 1 < L.length ∧ K (lpw L 0 (.long a)) r w g | _ => False)) ∧
  (∀ (k pc x y z u v : Nat) (J : Int → mK) (Q : mW → mO → Prop) (K : mK) (L st : List Value) (w : mW) (g : mG), stW k J Q (pc, .lstore_n 1, x, y, z, u, v) K L st w g = (match st with | .long a :: r => 2 < L.length ∧ K (lpw L 1 (.long a)) r w g | _ => False)) ∧
  (∀ (k pc x y z u v : Nat) (J : Int → mK) (Q : mW → mO → Prop) (K : mK) (L st : List Value) (w : mW) (g : mG), stW k J Q (pc, .lstore_n 2, x, y, z, u, v) K L st w g = (match st with | .long a :: r => 3 < L.length ∧ K (lpw L 2 (.long a)) r w g | _ => False)) ∧
  (∀ (k pc x y z u v : Nat) (J : Int → mK) (Q : mW → mO → Prop) (K : mK) (L st : List Value) (w : mW) (g : mG), stW k J Q (pc, .lstore_n 3, x, y, z, u, v) K L st w g = (match st with | .long a :: r => 4 < L.length ∧ K (lpw L 3 (.long a)) r w g | _ => False)) ∧
  (∀ (k pc x y z u v : Nat) (J : Int → mK) (Q : mW → mO → Prop) (K : mK) (L st : List Value) (w : mW) (g : mG) (n : Nat), stW k J Q (pc, .dstore n, x, y, z, u, v) K L st w g = (match st with | .double a :: r => n + 1 < L.length ∧ K (lpw L n (.double a)) r w g | _ => False)) ∧
  (∀ (k pc x y z u v : Nat) (J : Int → mK) (Q : mW → mO → Prop) (K : mK) (L st : List Value) (w : mW) (g : mG) (n : Nat) (d : Int), stW k J Q (pc, .iinc n d, x, y, z, u, v) K L st w g = (match lgt L n with | .int a => n < L.length ∧ K (lpu L n (.int (a + Int32.ofInt d))) st w g | _ => False)) ∧
  (∀ (k pc x y z u v : Nat) (J : Int → mK) (Q : mW → mO → Prop) (K : mK) (L st : List Value) (w : mW) (g : mG) (d : Int), stW k J Q (pc, .iconst d, x, y, z, u, v) K L st w g = K L (.int (Int32.ofInt d) :: st) w g) ∧
  (∀ (k pc x y z u v : Nat) (J : Int → mK) (Q : mW → mO → Prop) (K : mK) (L st : List Value) (w : mW) (g : mG) (d : Int), stW k J Q (pc, .bipush d, x, y, z, u, v) K L st w g = K L (.int (Int32.ofInt d) :: st) w g) ∧
  (∀ (k pc x y z u v : Nat) (J : Int → mK) (Q : mW → mO → Prop) (K : mK) (L st : List Value) (w : mW) (g : mG) (d : Int), stW k J Q (pc, .sipush d, x, y, z, u, v) K L st w g = K L (.int (Int32.ofInt d) :: st) w g) ∧
  (∀ (k pc x y z u v : Nat) (J : Int → mK) (Q : mW → mO → Prop) (K : mK) (L st : List Value) (w : mW) (g : mG), stW k J Q (pc, .lconst 0, x, y, z, u, v) K L st w g = K L (.long 0 :: st) w g) ∧
  (∀ (k pc x y z u v : Nat) (J : Int → mK) (Q : mW → mO → Prop) (K : mK) (L st : List Value) (w : mW) (g : mG), stW k J Q (pc, .lconst 1, x, y, z, u, v) K L st w g = K L (.long 1 :: st) w g) ∧
  (∀ (k pc x y z u v : Nat) (J : Int → mK) (Q : mW → mO → Prop) (K : mK) (L st : List Value) (w : mW) (g : mG) (d : Fin 3), stW k J Q (pc, .fconst d, x, y, z, u, v) K L st w g = K L (.float FP.fconst1 :: st) w g) ∧
  (∀ (k pc x z u v : Nat) (J : Int → mK) (Q : mW → mO → Prop) (K : mK) (L st : List Value) (w : mW) (g : mG) (d : Nat), stW k J Q (pc, .ldc d, x, 0, z, u, v) K L st w g = K L (.int (Int32.ofNat z) :: st) w g) ∧
  (∀ (k pc x z u v : Nat) (J : Int → mK) (Q : mW → mO → Prop) (K : mK) (L st : List Value) (w : mW) (g : mG) (d : Nat), stW k J Q (pc, .ldc d, x, 1, z, u, v) K L st w g = K L (.ref x :: st) w g) ∧
  (∀ (k pc x z u v : Nat) (J : Int → mK) (Q : mW → mO → Prop) (K : mK) (L st : List Value) (w : mW) (g : mG) (d : Nat), stW k J Q (pc, .ldc_w d, x, 0, z, u, v) K L st w g = K L (.int (Int32.ofNat z) :: st) w g) ∧
  (∀ (k pc x z u v : Nat) (J : Int → mK) (Q : mW → mO → Prop) (K : mK) (L st : List Value) (w : mW) (g : mG) (d : Nat), stW k J Q (pc, .ldc_w d, x, 1, z, u, v) K L st w g = K L (.ref x :: st) w g) ∧
  (∀ (k pc x y z u v : Nat) (J : Int → mK) (Q : mW → mO → Prop) (K : mK) (L st : List Value) (w : mW) (g : mG) (d : Nat), stW k J Q (pc, .ldc2_w d, x, y, z, u, v) K L st w g = K L (.long (Int64.ofNat z) :: st) w g) ∧
  (∀ (k pc x y z u v : Nat) (J : Int → mK) (Q : mW → mO → Prop) (K : mK) (L st : List Value) (w : mW) (g : mG), stW k J Q (pc, .iadd, x, y, z, u, v) K L st w g = (match st with | .int b :: .int a :: r => K L (.int (a + b) :: r) w g | _ => False)) ∧
  (∀ (k pc x y z u v : Nat) (J : Int → mK) (Q : mW → mO → Prop) (K : mK) (L st : List Value) (w : mW) (g : mG), stW k J Q (pc, .isub, x, y, z, u, v) K L st w g = (match st with | .int b :: .int a :: r => K L (.int (a - b) :: r) w g | _ => False)) ∧
  (∀ (k pc x y z u v : Nat) (J : Int → mK) (Q : mW → mO → Prop) (K : mK) (L st : List Value) (w : mW) (g : mG), stW k J Q (pc, .imul, x, y, z, u, v) K L st w g = (match st with | .int b :: .int a :: r => K L (.int (a * b) :: r) w g | _ => False)) ∧
  (∀ (k pc x y z u v : Nat) (J : Int → mK) (Q : mW → mO → Prop) (K : mK) (L st : List Value) (w : mW) (g : mG), stW k J Q (pc, .iand, x, y, z, u, v) K L st w g = (match st with | .int b :: .int a :: r => K L (.int (a &&& b) :: r) w g | _ => False)) ∧
  (∀ (k pc x y z u v : Nat) (J : Int → mK) (Q : mW → mO → Prop) (K : mK) (L st : List Value) (w : mW) (g : mG), stW k J Q (pc, .ior, x, y, z, u, v) K L st w g = (match st with | .int b :: .int a :: r => K L (.int (a ||| b) :: r) w g | _ => False)) ∧
  (∀ (k pc x y z u v : Nat) (J : Int → mK) (Q : mW → mO → Prop) (K : mK) (L st : List Value) (w : mW) (g : mG), stW k J Q (pc, .ixor, x, y, z, u, v) K L st w g = (match st with | .int b :: .int a :: r => K L (.int (a ^^^ b) :: r) w g | _ => False)) ∧
  (∀ (k pc x y z u v : Nat) (J : Int → mK) (Q : mW → mO → Prop) (K : mK) (L st : List Value) (w : mW) (g : mG), stW k J Q (pc, .ishl, x, y, z, u, v) K L st w g = (match st with | .int b :: .int a :: r => K L (.int (a <<< (b &&& 31)) :: r) w g | _ => False)) ∧
  (∀ (k pc x y z u v : Nat) (J : Int → mK) (Q : mW → mO → Prop) (K : mK) (L st : List Value) (w : mW) (g : mG), stW k J Q (pc, .ishr, x, y, z, u, v) K L st w g = (match st with | .int b :: .int a :: r => K L (.int (a >>> (b &&& 31)) :: r) w g | _ => False)) ∧
  (∀ (k pc x y z u v : Nat) (J : Int → mK) (Q : mW → mO → Prop) (K : mK) (L st : List Value) (w : mW) (g : mG), stW k J Q (pc, .iushr, x, y, z, u, v) K L st w g = (match st with | .int b :: .int a :: r => K L (.int (a.toUInt32 >>> (b.toUInt32 &&& Int32.toUInt32 31)).toInt32 :: r) w g | _ => False)) ∧
  (∀ (k pc x y z u v : Nat) (J : Int → mK) (Q : mW → mO → Prop) (K : mK) (L st : List Value) (w : mW) (g : mG), stW k J Q (pc, .ladd, x, y, z, u, v) K L st w g = (match st with | .long b :: .long a :: r => K L (.long (a + b) :: r) w g | _ => False)) ∧
  (∀ (k pc x y z u v : Nat) (J : Int → mK) (Q : mW → mO → Prop) (K : mK) (L st : List Value) (w : mW) (g : mG), stW k J Q (pc, .lneg, x, y, z, u, v) K L st w g = (match st with | .long a :: r => K L (.long (-a) :: r) w g | _ => False)) ∧
  (∀ (k pc x y z u v : Nat) (J : Int → mK) (Q : mW → mO → Prop) (K : mK) (L st : List Value) (w : mW) (g : mG), stW k J Q (pc, .lsub, x, y, z, u, v) K L st w g = (match st with | .long b :: .long a :: r => K L (.long (a - b) :: r) w g | _ => False)) ∧
  (∀ (k pc x y z u v : Nat) (J : Int → mK) (Q : mW → mO → Prop) (K : mK) (L st : List Value) (w : mW) (g : mG), stW k J Q (pc, .lmul, x, y, z, u, v) K L st w g = (match st with | .long b :: .long a :: r => K L (.long (a * b) :: r) w g | _ => False)) ∧
  (∀ (k pc x y z u v : Nat) (J : Int → mK) (Q : mW → mO → Prop) (K : mK) (L st : List Value) (w : mW) (g : mG), stW k J Q (pc, .lxor, x, y, z, u, v) K L st w g = (match st with | .long b :: .long a :: r => K L (.long (a ^^^ b) :: r) w g | _ => False)) ∧
  (∀ (k pc x y z u v : Nat) (J : Int → mK) (Q : mW → mO → Prop) (K : mK) (L st : List Value) (w : mW) (g : mG), stW k J Q (pc, .lcmp, x, y, z, u, v) K L st w g = (match st with | .long b :: .long a :: r => K L (.int (lg_cmp a b) :: r) w g | _ => False)) ∧
  (∀ (k pc x y z u v : Nat) (J : Int → mK) (Q : mW → mO → Prop) (K : mK) (L st : List Value) (w : mW) (g : mG), stW k J Q (pc, .idiv, x, y, z, u, v) K L st w g = (match st with | .int b :: .int a :: r => ¬ b = 0 ∧ K L (.int (a / b) :: r) w g | _ => False)) ∧
  (∀ (k pc x y z u v : Nat) (J : Int → mK) (Q : mW → mO → Prop) (K : mK) (L st : List Value) (w : mW) (g : mG), stW k J Q (pc, .irem, x, y, z, u, v) K L st w g = (match st with | .int b :: .int a :: r => ¬ b = 0 ∧ K L (.int (a - a / b * b) :: r) w g | _ => False)) ∧
  (∀ (k pc x y z u v : Nat) (J : Int → mK) (Q : mW → mO → Prop) (K : mK) (L st : List Value) (w : mW) (g : mG), stW k J Q (pc, .ldiv, x, y, z, u, v) K L st w g = (match st with | .long b :: .long a :: r => ¬ b = 0 ∧ K L (.long (a / b) :: r) w g | _ => False)) ∧
  (∀ (k pc x y z u v : Nat) (J : Int → mK) (Q : mW → mO → Prop) (K : mK) (L st : List Value) (w : mW) (g : mG), stW k J Q (pc, .lrem, x, y, z, u, v) K L st w g = (match st with | .long b :: .long a :: r => ¬ b = 0 ∧ K L (.long (a - a / b * b) :: r) w g | _ => False)) ∧
  (∀ (k pc x y z u v : Nat) (J : Int → mK) (Q : mW → mO → Prop) (K : mK) (L st : List Value) (w : mW) (g : mG) (op : CmpOp), stW k J Q (pc, .dcmp op, x, y, z, u, v) K L st w g = (match st with | .double b :: .double a :: r => K L (.int (Op.cmpValue (FP.dcmp a b) op) :: r) w g | _ => False)) ∧
  (∀ (k pc x y z u v : Nat) (J : Int → mK) (Q : mW → mO → Prop) (K : mK) (L st : List Value) (w : mW) (g : mG) (op : CmpOp), stW k J Q (pc, .fcmp op, x, y, z, u, v) K L st w g = (match st with | .float b :: .float a :: r => K L (.int (Op.cmpValue (FP.fcmp a b) op) :: r) w g | _ => False)) ∧
  (∀ (k pc x y z u v : Nat) (J : Int → mK) (Q : mW → mO → Prop) (K : mK) (L st : List Value) (w : mW) (g : mG), stW k J Q (pc, .fdiv, x, y, z, u, v) K L st w g = (match st with | .float b :: .float a :: r => vf_n32 (FP.fdiv a b) ∧ K L (.float (FP.fdiv a b) :: r) w g | _ => False)) ∧
  (∀ (k pc x y z u v : Nat) (J : Int → mK) (Q : mW → mO → Prop) (K : mK) (L st : List Value) (w : mW) (g : mG), stW k J Q (pc, .ineg, x, y, z, u, v) K L st w g = (match st with | .int a :: r => K L (.int (-a) :: r) w g | _ => False)) ∧
  (∀ (k pc x y z u v : Nat) (J : Int → mK) (Q : mW → mO → Prop) (K : mK) (L st : List Value) (w : mW) (g : mG), stW k J Q (pc, .i2l, x, y, z, u, v) K L st w g = (match st with | .int a :: r => K L (.long a.toInt64 :: r) w g | _ => False)) ∧
  (∀ (k pc x y z u v : Nat) (J : Int → mK) (Q : mW → mO → Prop) (K : mK) (L st : List Value) (w : mW) (g : mG), stW k J Q (pc, .i2f, x, y, z, u, v) K L st w g = (match st with | .int a :: r => K L (.float (FP.i2f a) :: r) w g | _ => False)) ∧
  (∀ (k pc x y z u v : Nat) (J : Int → mK) (Q : mW → mO → Prop) (K : mK) (L st : List Value) (w : mW) (g : mG), stW k J Q (pc, .i2b, x, y, z, u, v) K L st w g = (match st with | .int a :: r => K L (.int a.toInt8.toInt32 :: r) w g | _ => False)) ∧
  (∀ (k pc x y z u v : Nat) (J : Int → mK) (Q : mW → mO → Prop) (K : mK) (L st : List Value) (w : mW) (g : mG), stW k J Q (pc, .l2i, x, y, z, u, v) K L st w g = (match st with | .long a :: r => K L (.int a.toInt32 :: r) w g | _ => False)) ∧
  (∀ (k pc x y z u v : Nat) (J : Int → mK) (Q : mW → mO → Prop) (K : mK) (L st : List Value) (w : mW) (g : mG), stW k J Q (pc, .i2c, x, y, z, u, v) K L st w g = (match st with | .int a :: r => K L (.int (a.toUInt32 % 65536).toInt32 :: r) w g | _ => False)) ∧
  (∀ (k pc x y z u v : Nat) (J : Int → mK) (Q : mW → mO → Prop) (K : mK) (L st : List Value) (w : mW) (g : mG), stW k J Q (pc, .f2d, x, y, z, u, v) K L st w g = (match st with | .float a :: r => vf_n64 (FP.f2d a) ∧ K L (.double (FP.f2d a) :: r) w g | _ => False)) ∧
  (∀ (k pc x y z u v : Nat) (J : Int → mK) (Q : mW → mO → Prop) (K : mK) (L st : List Value) (w : mW) (g : mG), stW k J Q (pc, .dup, x, y, z, u, v) K L st w g = (match st with | a :: r => v_c2 a = false ∧ K L (a :: a :: r) w g | _ => False)) ∧
  (∀ (k pc x y z u v : Nat) (J : Int → mK) (Q : mW → mO → Prop) (K : mK) (L st : List Value) (w : mW) (g : mG), stW k J Q (pc, .dup2, x, y, z, u, v) K L st w g = (match st with | a :: b :: r => v_c2 a = false ∧ v_c2 b = false ∧ K L (a :: b :: a :: b :: r) w g | _ => False)) ∧
  (∀ (k pc x y z u v : Nat) (J : Int → mK) (Q : mW → mO → Prop) (K : mK) (L st : List Value) (w : mW) (g : mG), stW k J Q (pc, .dup_x1, x, y, z, u, v) K L st w g = (match st with | a :: b :: r => v_c2 a = false ∧ v_c2 b = false ∧ K L (a :: b :: a :: r) w g | _ => False)) ∧
  (∀ (k pc x y z u v : Nat) (J : Int → mK) (Q : mW → mO → Prop) (K : mK) (L st : List Value) (w : mW) (g : mG), stW k J Q (pc, .pop, x, y, z, u, v) K L st w g = (match st with | a :: r => v_c2 a = false ∧ K L r w g | _ => False)) ∧
  (∀ (k pc x y z u v : Nat) (J : Int → mK) (Q : mW → mO → Prop) (K : mK) (L st : List Value) (w : mW) (g : mG) (d : Int), stW k J Q (pc, .ifCond .eq d, x, y, z, u, v) K L st w g = (match st with | .int a :: r => (a = 0 → J x L r w g) ∧ (¬ a = 0 → K L r w g) | _ => False)) ∧
  (∀ (k pc x y z u v : Nat) (J : Int → mK) (Q : mW → mO → Prop) (K : mK) (L st : List Value) (w : mW) (g : mG) (d : Int), stW k J Q (pc, .if_icmp .eq d, x, y, z, u, v) K L st w g = (match st with | .int b :: .int a :: r => (a = b → J x L r w g) ∧ (¬ a = b → K L r w g) | _ => False)) ∧
  (∀ (k pc x y z u v : Nat) (J : Int → mK) (Q : mW → mO → Prop) (K : mK) (L st : List Value) (w : mW) (g : mG) (d : Int), stW k J Q (pc, .ifCond .ne d, x, y, z, u, v) K L st w g = (match st with | .int a :: r => (¬ a = 0 → J x L r w g) ∧ (¬ (¬ a = 0) → K L r w g) | _ => False)) ∧
  (∀ (k pc x y z u v : Nat) (J : Int → mK) (Q : mW → mO → Prop) (K : mK) (L st : List Value) (w : mW) (g : mG) (d : Int), stW k J Q (pc, .if_icmp .ne d, x, y, z, u, v) K L st w g = (match st with | .int b :: .int a :: r => (¬ a = b → J x L r w g) ∧ (¬ (¬ a = b) → K L r w g) | _ => False)) ∧
  (∀ (k pc x y z u v : Nat) (J : Int → mK) (Q : mW → mO → Prop) (K : mK) (L st : List Value) (w : mW) (g : mG) (d : Int), stW k J Q (pc, .ifCond .lt d, x, y, z, u, v) K L st w g = (match st with | .int a :: r => (a < 0 → J x L r w g) ∧ (¬ a < 0 → K L r w g) | _ => False)) ∧
  (∀ (k pc x y z u v : Nat) (J : Int → mK) (Q : mW → mO → Prop) (K : mK) (L st : List Value) (w : mW) (g : mG) (d : Int), stW k J Q (pc, .if_icmp .lt d, x, y, z, u, v) K L st w g = (match st with | .int b :: .int a :: r => (a < b → J x L r w g) ∧ (¬ a < b → K L r w g) | _ => False)) ∧
  (∀ (k pc x y z u v : Nat) (J : Int → mK) (Q : mW → mO → Prop) (K : mK) (L st : List Value) (w : mW) (g : mG) (d : Int), stW k J Q (pc, .ifCond .ge d, x, y, z, u, v) K L st w g = (match st with | .int a :: r => (0 ≤ a → J x L r w g) ∧ (¬ 0 ≤ a → K L r w g) | _ => False)) ∧
  (∀ (k pc x y z u v : Nat) (J : Int → mK) (Q : mW → mO → Prop) (K : mK) (L st : List Value) (w : mW) (g : mG) (d : Int), stW k J Q (pc, .if_icmp .ge d, x, y, z, u, v) K L st w g = (match st with | .int b :: .int a :: r => (b ≤ a → J x L r w g) ∧ (¬ b ≤ a → K L r w g) | _ => False)) ∧
  (∀ (k pc x y z u v : Nat) (J : Int → mK) (Q : mW → mO → Prop) (K : mK) (L st : List Value) (w : mW) (g : mG) (d : Int), stW k J Q (pc, .ifCond .gt d, x, y, z, u, v) K L st w g = (match st with | .int a :: r => (0 < a → J x L r w g) ∧ (¬ 0 < a → K L r w g) | _ => False)) ∧
  (∀ (k pc x y z u v : Nat) (J : Int → mK) (Q : mW → mO → Prop) (K : mK) (L st : List Value) (w : mW) (g : mG) (d : Int), stW k J Q (pc, .if_icmp .gt d, x, y, z, u, v) K L st w g = (match st with | .int b :: .int a :: r => (b < a → J x L r w g) ∧ (¬ b < a → K L r w g) | _ => False)) ∧
  (∀ (k pc x y z u v : Nat) (J : Int → mK) (Q : mW → mO → Prop) (K : mK) (L st : List Value) (w : mW) (g : mG) (d : Int), stW k J Q (pc, .ifCond .le d, x, y, z, u, v) K L st w g = (match st with | .int a :: r => (a ≤ 0 → J x L r w g) ∧ (¬ a ≤ 0 → K L r w g) | _ => False)) ∧
  (∀ (k pc x y z u v : Nat) (J : Int → mK) (Q : mW → mO → Prop) (K : mK) (L st : List Value) (w : mW) (g : mG) (d : Int), stW k J Q (pc, .if_icmp .le d, x, y, z, u, v) K L st w g = (match st with | .int b :: .int a :: r => (a ≤ b → J x L r w g) ∧ (¬ a ≤ b → K L r w g) | _ => False)) ∧
  (∀ (k pc x y z u v : Nat) (J : Int → mK) (Q : mW → mO → Prop) (K : mK) (L st : List Value) (w : mW) (g : mG) (d : Int), stW k J Q (pc, .goto d, x, y, z, u, v) K L st w g = J x L st w g) ∧
  (∀ (k pc x y z u v : Nat) (J : Int → mK) (Q : mW → mO → Prop) (K : mK) (L st : List Value) (w : mW) (g : mG) (d : Int), stW k J Q (pc, .ifnonnull d, x, y, z, u, v) K L st w g = (match st with | .ref _ :: r => J x L r w g | _ => False)) ∧
  (∀ (k pc x y z u v : Nat) (J : Int → mK) (Q : mW → mO → Prop) (K : mK) (L st : List Value) (w : mW) (g : mG), stW k J Q (pc, .aconst_null, x, y, z, u, v) K L st w g = K L (.null :: st) w g) ∧
  (∀ (k pc x y z u v : Nat) (J : Int → mK) (Q : mW → mO → Prop) (K : mK) (L st : List Value) (w : mW) (g : mG) (d : Nat), stW k J Q (pc, .checkcast d, x, y, z, u, v) K L st w g = (match st with | .ref a :: r => (w_sh w a).1 = x + 1 ∧ K L (.ref a :: r) w g | _ => False)) ∧
  (∀ (k pc x y z u v : Nat) (J : Int → mK) (Q : mW → mO → Prop) (K : mK) (L st : List Value) (w : mW) (g : mG) (d lo hi : Int) (offs : Array Int), stW k J Q (pc, .tableswitch d lo hi offs, x, y, z, u, v) K L st w g = (match st with | .int a :: r => J (tsw pc d lo hi offs a) L r w g | _ => False)) ∧
  (∀ (k pc x y u v : Nat) (J : Int → mK) (Q : mW → mO → Prop) (K : mK) (L st : List Value) (w : mW) (g : mG) (d : Nat), stW k J Q (pc, .getfield d, x, y, 0, u, v) K L st w g = (match st with | .ref a :: r => w_sh w a = (0, x) ∧ K L (.int (w_I w a y) :: r) w g | _ => False)) ∧
  (∀ (k pc x y u v : Nat) (J : Int → mK) (Q : mW → mO → Prop) (K : mK) (L st : List Value) (w : mW) (g : mG) (d : Nat), stW k J Q (pc, .getfield d, x, y, 1, u, v) K L st w g = (match st with | .ref a :: r => w_sh w a = (0, x) ∧ K L (.long (w_J w a y) :: r) w g | _ => False)) ∧
  (∀ (k pc x y u v : Nat) (J : Int → mK) (Q : mW → mO → Prop) (K : mK) (L st : List Value) (w : mW) (g : mG) (d : Nat), stW k J Q (pc, .getfield d, x, y, 2, u, v) K L st w g = (match st with | .ref a :: r => w_sh w a = (0, x) ∧ K L (va_rf (w_R w a y) :: r) w g | _ => False)) ∧
  (∀ (k pc x y u v : Nat) (J : Int → mK) (Q : mW → mO → Prop) (K : mK) (L st : List Value) (w : mW) (g : mG) (d : Nat), stW k J Q (pc, .getfield d, x, y, 4, u, v) K L st w g = (match st with | .ref a :: r => (Nat.lt a 100 → Nat.le 2 a ∧ Nat.lt a 18 ∧ K L (.ref (a + 50) :: r) w g) ∧ (Nat.le 100 a → w_sh w a = (0, 11) ∧ K L (va_rf (w_R w a 0) :: r) w g) | _ => False)) ∧
  (∀ (k pc x y u v : Nat) (J : Int → mK) (Q : mW → mO → Prop) (K : mK) (L st : List Value) (w : mW) (g : mG) (d : Nat), stW k J Q (pc, .getfield d, x, y, 5, u, v) K L st w g = (match st with | .ref a :: r => (Nat.lt a 100 → Nat.le 2 a ∧ Nat.lt a 18 ∧ K L (.int 0 :: r) w g) ∧ (Nat.le 100 a → w_sh w a = (0, 11) ∧ K L (.int (w_I w a 1) :: r) w g) | _ => False)) ∧
  (∀ (k pc x y u v : Nat) (J : Int → mK) (Q : mW → mO → Prop) (K : mK) (L st : List Value) (w : mW) (g : mG) (d : Nat), stW k J Q (pc, .putfield d, x, y, 0, u, v) K L st w g = (match st with | .int b :: .ref a :: r => w_sh w a = (0, x) ∧ K L r (s_I w a y b) g | _ => False)) ∧
  (∀ (k pc x y u v : Nat) (J : Int → mK) (Q : mW → mO → Prop) (K : mK) (L st : List Value) (w : mW) (g : mG) (d : Nat), stW k J Q (pc, .putfield d, x, y, 1, u, v) K L st w g = (match st with | .long b :: .ref a :: r => w_sh w a = (0, x) ∧ K L r (s_J w a y b) g | _ => False)) ∧
  (∀ (k pc x y u v : Nat) (J : Int → mK) (Q : mW → mO → Prop) (K : mK) (L st : List Value) (w : mW) (g : mG) (d : Nat), stW k J Q (pc, .putfield d, x, y, 2, u, v) K L st w g = (match st with | .ref b :: .ref a :: r => w_sh w a = (0, x) ∧ K L r (s_R w a y (some b)) g | _ => False)) ∧
  (∀ (k pc x y u v : Nat) (J : Int → mK) (Q : mW → mO → Prop) (K : mK) (L st : List Value) (w : mW) (g : mG) (d : Nat), stW k J Q (pc, .putfield d, x, y, 3, u, v) K L st w g = (match st with | .int b :: .ref a :: r => w_sh w a = (0, x) ∧ (b = 0 ∨ b = 1) ∧ K L r (s_I w a y b) g | _ => False)) ∧
  (∀ (k pc y z u v : Nat) (J : Int → mK) (Q : mW → mO → Prop) (K : mK) (L st : List Value) (w : mW) (g : mG) (d : Nat), stW k J Q (pc, .getstatic d, 1, y, z, u, v) K L st w g = K L (.ref 1 :: st) w g) ∧
  (∀ (k pc y z u v : Nat) (J : Int → mK) (Q : mW → mO → Prop) (K : mK) (L st : List Value) (w : mW) (g : mG) (d : Nat), stW k J Q (pc, .getstatic d, 2, y, z, u, v) K L st w g = K L (.int 1 :: st) w g) ∧
  (∀ (k pc y z u v : Nat) (J : Int → mK) (Q : mW → mO → Prop) (K : mK) (L st : List Value) (w : mW) (g : mG) (d : Nat), stW k J Q (pc, .getstatic d, 3, y, z, u, v) K L st w g = K L (.ref 40 :: st) w g) ∧
  (∀ (k pc y z u v : Nat) (J : Int → mK) (Q : mW → mO → Prop) (K : mK) (L st : List Value) (w : mW) (g : mG) (d : Nat), stW k J Q (pc, .getstatic d, 4, y, z, u, v) K L st w g = K L (.ref 41 :: st) w g) ∧
  (∀ (k pc y z u v : Nat) (J : Int → mK) (Q : mW → mO → Prop) (K : mK) (L st : List Value) (w : mW) (g : mG) (d : Nat), stW k J Q (pc, .getstatic d, 5, y, z, u, v) K L st w g = (K L (.null :: st) w g ∧ K L (.ref 42 :: st) w g)) ∧
  (∀ (k pc y z u v : Nat) (J : Int → mK) (Q : mW → mO → Prop) (K : mK) (L st : List Value) (w : mW) (g : mG), stW k J Q (pc, .iaload, 0, y, z, u, v) K L st w g = (match st with | .int b :: .ref a :: r => (w_sh w a).1 = 1 ∧ vp_in b (w_sh w a).2 ∧ K L (.int (w_I w a b.toNatClampNeg) :: r) w g | _ => False)) ∧
  (∀ (k pc y z u v : Nat) (J : Int → mK) (Q : mW → mO → Prop) (K : mK) (L st : List Value) (w : mW) (g : mG), stW k J Q (pc, .iaload, 50, y, z, u, v) K L st w g = (match st with | .int b :: .ref a :: r => a = 0 ∧ vp_in b (w_sh w 0).2 ∧ K L (.int (w_I w 0 b.toNatClampNeg) :: r) w g | _ => False)) ∧
  (∀ (k pc y z u v : Nat) (J : Int → mK) (Q : mW → mO → Prop) (K : mK) (L st : List Value) (w : mW) (g : mG), stW k J Q (pc, .baload, 1, y, z, u, v) K L st w g = (match st with | .int b :: .ref a :: r => (w_sh w a).1 = 2 ∧ vp_in b (w_sh w a).2 ∧ K L (.int (w_I w a b.toNatClampNeg) :: r) w g | _ => False)) ∧
  (∀ (k pc y z u v : Nat) (J : Int → mK) (Q : mW → mO → Prop) (K : mK) (L st : List Value) (w : mW) (g : mG), stW k J Q (pc, .baload, 2, y, z, u, v) K L st w g = (match st with | .int b :: .ref a :: r => (w_sh w a).1 = 3 ∧ vp_in b (w_sh w a).2 ∧ K L (.int (w_I w a b.toNatClampNeg) :: r) w g | _ => False)) ∧
  (∀ (k pc y z u v : Nat) (J : Int → mK) (Q : mW → mO → Prop) (K : mK) (L st : List Value) (w : mW) (g : mG), stW k J Q (pc, .baload, 60, y, z, u, v) K L st w g = (match st with | .int b :: .ref a :: r => (a = 40 ∨ a = 41) ∧ vp_in b 100 ∧ K L (.int (if a = 40 then dgO b.toNatClampNeg else dgT b.toNatClampNeg) :: r) w g | _ => False)) ∧
  (∀ (k pc x y z u v : Nat) (J : Int → mK) (Q : mW → mO → Prop) (K : mK) (L st : List Value) (w : mW) (g : mG), stW k J Q (pc, .caload, x, y, z, u, v) K L st w g = False) ∧
  (∀ (k pc y z u v : Nat) (J : Int → mK) (Q : mW → mO → Prop) (K : mK) (L st : List Value) (w : mW) (g : mG), stW k J Q (pc, .laload, 4, y, z, u, v) K L st w g = (match st with | .int b :: .ref a :: r => (w_sh w a).1 = 5 ∧ vp_in b (w_sh w a).2 ∧ K L (.long (w_J w a b.toNatClampNeg) :: r) w g | _ => False)) ∧
  (∀ (k pc y z u v : Nat) (J : Int → mK) (Q : mW → mO → Prop) (K : mK) (L st : List Value) (w : mW) (g : mG), stW k J Q (pc, .laload, 51, y, z, u, v) K L st w g = (match st with | .int b :: .ref a :: r => a = 1 ∧ vp_in b 17 ∧ K L (.long (pw10 b.toNatClampNeg) :: r) w g | _ => False)) ∧
  (∀ (k pc y z u v : Nat) (J : Int → mK) (Q : mW → mO → Prop) (K : mK) (L st : List Value) (w : mW) (g : mG), stW k J Q (pc, .aaload, 5, y, z, u, v) K L st w g = (match st with | .int b :: .ref a :: r => (w_sh w a).1 = 6 ∧ vp_in b (w_sh w a).2 ∧ K L (va_rf (w_R w a b.toNatClampNeg) :: r) w g | _ => False)) ∧
  (∀ (k pc y z u v : Nat) (J : Int → mK) (Q : mW → mO → Prop) (K : mK) (L st : List Value) (w : mW) (g : mG), stW k J Q (pc, .aaload, 6, y, z, u, v) K L st w g = (match st with | .int b :: .ref a :: r => (w_sh w a).1 = 7 ∧ vp_in b (w_sh w a).2 ∧ K L (va_rf (w_R w a b.toNatClampNeg) :: r) w g | _ => False)) ∧
  (∀ (k pc x y z u v : Nat) (J : Int → mK) (Q : mW → mO → Prop) (K : mK) (L st : List Value) (w : mW) (g : mG), stW k J Q (pc, .iastore, x, y, z, u, v) K L st w g = (match st with | .int d :: .int b :: .ref a :: r => (w_sh w a).1 = 1 ∧ vp_in b (w_sh w a).2 ∧ K L r (s_I w a b.toNatClampNeg d) g | _ => False)) ∧
  (∀ (k pc y z u v : Nat) (J : Int → mK) (Q : mW → mO → Prop) (K : mK) (L st : List Value) (w : mW) (g : mG), stW k J Q (pc, .bastore, 1, y, z, u, v) K L st w g = (match st with | .int d :: .int b :: .ref a :: r => (w_sh w a).1 = 2 ∧ vp_in b (w_sh w a).2 ∧ K L r (s_I w a b.toNatClampNeg (vp_nar .boolean d)) g | _ => False)) ∧
  (∀ (k pc y z u v : Nat) (J : Int → mK) (Q : mW → mO → Prop) (K : mK) (L st : List Value) (w : mW) (g : mG), stW k J Q (pc, .bastore, 2, y, z, u, v) K L st w g = (match st with | .int d :: .int b :: .ref a :: r => (w_sh w a).1 = 3 ∧ vp_in b (w_sh w a).2 ∧ K L r (s_I w a b.toNatClampNeg (vp_nar .byte d)) g | _ => False)) ∧
  (∀ (k pc x y z u v : Nat) (J : Int → mK) (Q : mW → mO → Prop) (K : mK) (L st : List Value) (w : mW) (g : mG), stW k J Q (pc, .castore, x, y, z, u, v) K L st w g = False) ∧
  (∀ (k pc x y z u v : Nat) (J : Int → mK) (Q : mW → mO → Prop) (K : mK) (L st : List Value) (w : mW) (g : mG), stW k J Q (pc, .lastore, x, y, z, u, v) K L st w g = (match st with | .long d :: .int b :: .ref a :: r => (w_sh w a).1 = 5 ∧ vp_in b (w_sh w a).2 ∧ K L r (s_J w a b.toNatClampNeg d) g | _ => False)) ∧
  (∀ (k pc y z u v : Nat) (J : Int → mK) (Q : mW → mO → Prop) (K : mK) (L st : List Value) (w : mW) (g : mG), stW k J Q (pc, .aastore, 5, y, z, u, v) K L st w g = (match st with | .ref d :: .int b :: .ref a :: r => (w_sh w a).1 = 6 ∧ vp_in b (w_sh w a).2 ∧ w_sh w d = (0, 2) ∧ K L r (s_R w a b.toNatClampNeg (some d)) g | _ => False)) ∧
  (∀ (k pc y z u v : Nat) (J : Int → mK) (Q : mW → mO → Prop) (K : mK) (L st : List Value) (w : mW) (g : mG), stW k J Q (pc, .aastore, 6, y, z, u, v) K L st w g = (match st with | .ref d :: .int b :: .ref a :: r => (w_sh w a).1 = 7 ∧ vp_in b (w_sh w a).2 ∧ (w_sh w d).1 = 1 ∧ K L r (s_R w a b.toNatClampNeg (some d)) g | _ => False)) ∧
  (∀ (k pc x y u v : Nat) (J : Int → mK) (Q : mW → mO → Prop) (K : mK) (L st : List Value) (w : mW) (g : mG), stW k J Q (pc, .arraylength, x, y, 0, u, v) K L st w g = (match st with | .ref a :: r => (w_sh w a).1 = x + 1 ∧ K L (.int (Int32.ofNat (w_sh w a).2) :: r) w g | _ => False)) ∧
  (∀ (k pc x y u v : Nat) (J : Int → mK) (Q : mW → mO → Prop) (K : mK) (L st : List Value) (w : mW) (g : mG), stW k J Q (pc, .arraylength, x, y, 4, u, v) K L st w g = (match st with | .ref a :: r => (Nat.lt a 100 → Nat.le 52 a ∧ Nat.lt a 68 ∧ K L (.int (Int32.ofNat (s_len (a - 52))) :: r) w g) ∧ (Nat.le 100 a → (w_sh w a).1 = 3 ∧ K L (.int (Int32.ofNat (w_sh w a).2) :: r) w g) | _ => False)) ∧
  (∀ (k pc x y z u v : Nat) (J : Int → mK) (Q : mW → mO → Prop) (K : mK) (L st : List Value) (w : mW) (ga gb : Nat) (t : ArrayType), stW k J Q (pc, .newarray t, x, y, z, u, v) K L st w (ga, gb, true) = (match st with | .int n :: r => ¬ n < 0 ∧ n.toNatClampNeg ≤ 65536 ∧ 1 ≤ ga ∧ n.toNatClampNeg ≤ gb ∧ K L (.ref (100 + w_n w) :: r) (s_N w (x + 1, n.toNatClampNeg)) (ga - 1, gb - n.toNatClampNeg, true) | _ => False)) ∧
  (∀ (k pc x y z u v : Nat) (J : Int → mK) (Q : mW → mO → Prop) (K : mK) (L st : List Value) (w : mW) (ga gb : Nat) (t : ArrayType), stW k J Q (pc, .newarray t, x, y, z, u, v) K L st w (ga, gb, false) = (match st with | .int n :: r => ¬ n < 0 ∧ n.toNatClampNeg ≤ 65536 ∧ 1 ≤ ga ∧ n.toNatClampNeg ≤ gb ∧ (∀ q, w_n w ≤ q → K L (.ref (100 + q) :: r) (s_N (s_K w q) (x + 1, n.toNatClampNeg)) (ga - 1, gb - n.toNatClampNeg, false)) | _ => False)) ∧
  (∀ (k pc x y z u v : Nat) (J : Int → mK) (Q : mW → mO → Prop) (K : mK) (L st : List Value) (w : mW) (ga gb : Nat) (t : Nat), stW k J Q (pc, .anewarray t, x, y, z, u, v) K L st w (ga, gb, true) = (match st with | .int n :: r => ¬ n < 0 ∧ n.toNatClampNeg ≤ 65536 ∧ 1 ≤ ga ∧ n.toNatClampNeg ≤ gb ∧ K L (.ref (100 + w_n w) :: r) (s_N w (x + 1, n.toNatClampNeg)) (ga - 1, gb - n.toNatClampNeg, true) | _ => False)) ∧
  (∀ (k pc x y z u v : Nat) (J : Int → mK) (Q : mW → mO → Prop) (K : mK) (L st : List Value) (w : mW) (ga gb : Nat) (t : Nat), stW k J Q (pc, .anewarray t, x, y, z, u, v) K L st w (ga, gb, false) = (match st with | .int n :: r => ¬ n < 0 ∧ n.toNatClampNeg ≤ 65536 ∧ 1 ≤ ga ∧ n.toNatClampNeg ≤ gb ∧ (∀ q, w_n w ≤ q → K L (.ref (100 + q) :: r) (s_N (s_K w q) (x + 1, n.toNatClampNeg)) (ga - 1, gb - n.toNatClampNeg, false)) | _ => False)) ∧
  (∀ (k pc x y u v : Nat) (J : Int → mK) (Q : mW → mO → Prop) (K : mK) (L st : List Value) (w : mW) (ga gb : Nat) (d : Nat), stW k J Q (pc, .new d, x, y, 0, u, v) K L st w (ga, gb, true) = (1 ≤ ga ∧ (m_cl x).2.2 ≤ gb ∧ K L (.ref (100 + w_n w) :: st) (s_N w (0, x)) (ga - 1, gb - (m_cl x).2.2, true))) ∧
  (∀ (k pc x y u v : Nat) (J : Int → mK) (Q : mW → mO → Prop) (K : mK) (L st : List Value) (w : mW) (ga gb : Nat) (d : Nat), stW k J Q (pc, .new d, x, y, 0, u, v) K L st w (ga, gb, false) = (1 ≤ ga ∧ (m_cl x).2.2 ≤ gb ∧ (∀ q, w_n w ≤ q → K L (.ref (100 + q) :: st) (s_N (s_K w q) (0, x)) (ga - 1, gb - (m_cl x).2.2, false)))) ∧
  (∀ (k pc x y u v : Nat) (J : Int → mK) (Q : mW → mO → Prop) (K : mK) (L st : List Value) (w : mW) (g : mG) (d : Nat), stW k J Q (pc, .new d, x, y, 1, u, v) K L st w g = (1 ≤ g.1 ∧ 6 ≤ g.2.1 ∧ v_ct st ≤ 8 ∧ Q w (.inr x))) ∧
  (∀ (k pc x y u v : Nat) (J : Int → mK) (Q : mW → mO → Prop) (K : mK) (L st : List Value) (w : mW) (g : mG) (d : Nat), stW k J Q (pc, .invokevirtual d, x, y, 3, u, v) K L st w g = (match st with | .ref a :: r => 2 ≤ a ∧ a < 18 ∧ v_ct r ≤ 8 ∧ K L (.int (Int32.ofNat (s_len (a - 2))) :: r) w g | _ => False)) ∧
  (∀ (k pc x y u v : Nat) (J : Int → mK) (Q : mW → mO → Prop) (K : mK) (L st : List Value) (w : mW) (g : mG) (d : Nat), stW k J Q (pc, .invokevirtual d, x, y, 4, u, v) K L st w g = (match st with | .int b :: .ref a :: r => 2 ≤ a ∧ a < 18 ∧ vp_in b (s_len (a - 2)) ∧ v_ct r ≤ 8 ∧ K L (.int (s_ch (a - 2) b.toNatClampNeg) :: r) w g | _ => False)) ∧
  (∀ (k pc x y u v : Nat) (J : Int → mK) (Q : mW → mO → Prop) (K : mK) (L st : List Value) (w : mW) (g : mG) (d : Nat), stW k J Q (pc, .invokevirtual d, x, y, 10, u, v) K L st w g = (match (st.take y).reverse with | .ref a :: b => w_sh w a = (0, 0) ∧ y ≤ st.length ∧ v_ct (st.drop y) ≤ 8 ∧ u ≤ g.1 ∧ v ≤ g.2.1 ∧ CT x (.ref a :: b) w (fun w' o => match o with | .inl a => (g.2.2 = true → w_n w' = w_n w + u) ∧ K L (a.toList ++ st.drop y) w' (g.1 - u, g.2.1 - v, g.2.2) | .inr E => match m_hh k with | [] => Q w' (.inr E) | _ => E = 0 ∧ Q w' (.inl (some (.int (Int32.ofInt (-1000)))))) | _ => False)) ∧
  (∀ (k pc x y u v : Nat) (J : Int → mK) (Q : mW → mO → Prop) (K : mK) (L st : List Value) (w : mW) (g : mG) (d : Nat), stW k J Q (pc, .invokevirtual d, x, y, 11, u, v) K L st w g = (match (st.take y).reverse with | .ref a :: b => w_sh w a = (0, 1) ∧ y ≤ st.length ∧ v_ct (st.drop y) ≤ 8 ∧ u ≤ g.1 ∧ v ≤ g.2.1 ∧ CT x (.ref a :: b) w (fun w' o => match o with | .inl a => (g.2.2 = true → w_n w' = w_n w + u) ∧ K L (a.toList ++ st.drop y) w' (g.1 - u, g.2.1 - v, g.2.2) | .inr E => match m_hh k with | [] => Q w' (.inr E) | _ => E = 0 ∧ Q w' (.inl (some (.int (Int32.ofInt (-1000)))))) | _ => False)) ∧
  (∀ (k pc x y u v : Nat) (J : Int → mK) (Q : mW → mO → Prop) (K : mK) (L st : List Value) (w : mW) (g : mG) (d : Nat), stW k J Q (pc, .invokevirtual d, x, y, 12, u, v) K L st w g = (match (st.take y).reverse with | .ref a :: b => w_sh w a = (0, 2) ∧ y ≤ st.length ∧ v_ct (st.drop y) ≤ 8 ∧ u ≤ g.1 ∧ v ≤ g.2.1 ∧ CT x (.ref a :: b) w (fun w' o => match o with | .inl a => (g.2.2 = true → w_n w' = w_n w + u) ∧ K L (a.toList ++ st.drop y) w' (g.1 - u, g.2.1 - v, g.2.2) | .inr E => match m_hh k with | [] => Q w' (.inr E) | _ => E = 0 ∧ Q w' (.inl (some (.int (Int32.ofInt (-1000)))))) | _ => False)) ∧
  (∀ (k pc x y u v : Nat) (J : Int → mK) (Q : mW → mO → Prop) (K : mK) (L st : List Value) (w : mW) (g : mG) (d : Nat), stW k J Q (pc, .invokevirtual d, x, y, 13, u, v) K L st w g = (match (st.take y).reverse with | .ref a :: b => w_sh w a = (0, 3) ∧ y ≤ st.length ∧ v_ct (st.drop y) ≤ 8 ∧ u ≤ g.1 ∧ v ≤ g.2.1 ∧ CT x (.ref a :: b) w (fun w' o => match o with | .inl a => (g.2.2 = true → w_n w' = w_n w + u) ∧ K L (a.toList ++ st.drop y) w' (g.1 - u, g.2.1 - v, g.2.2) | .inr E => match m_hh k with | [] => Q w' (.inr E) | _ => E = 0 ∧ Q w' (.inl (some (.int (Int32.ofInt (-1000)))))) | _ => False)) ∧
  (∀ (k pc x y u v : Nat) (J : Int → mK) (Q : mW → mO → Prop) (K : mK) (L st : List Value) (w : mW) (g : mG) (d : Nat), stW k J Q (pc, .invokevirtual d, x, y, 14, u, v) K L st w g = (match (st.take y).reverse with | .ref a :: b => w_sh w a = (0, 4) ∧ y ≤ st.length ∧ v_ct (st.drop y) ≤ 8 ∧ u ≤ g.1 ∧ v ≤ g.2.1 ∧ CT x (.ref a :: b) w (fun w' o => match o with | .inl a => (g.2.2 = true → w_n w' = w_n w + u) ∧ K L (a.toList ++ st.drop y) w' (g.1 - u, g.2.1 - v, g.2.2) | .inr E => match m_hh k with | [] => Q w' (.inr E) | _ => E = 0 ∧ Q w' (.inl (some (.int (Int32.ofInt (-1000)))))) | _ => False)) ∧
  (∀ (k pc x y u v : Nat) (J : Int → mK) (Q : mW → mO → Prop) (K : mK) (L st : List Value) (w : mW) (g : mG) (d : Nat), stW k J Q (pc, .invokevirtual d, x, y, 15, u, v) K L st w g = (match (st.take y).reverse with | .ref a :: b => w_sh w a = (0, 5) ∧ y ≤ st.length ∧ v_ct (st.drop y) ≤ 8 ∧ u ≤ g.1 ∧ v ≤ g.2.1 ∧ CT x (.ref a :: b) w (fun w' o => match o with | .inl a => (g.2.2 = true → w_n w' = w_n w + u) ∧ K L (a.toList ++ st.drop y) w' (g.1 - u, g.2.1 - v, g.2.2) | .inr E => match m_hh k with | [] => Q w' (.inr E) | _ => E = 0 ∧ Q w' (.inl (some (.int (Int32.ofInt (-1000)))))) | _ => False)) ∧
  (∀ (k pc x y u v : Nat) (J : Int → mK) (Q : mW → mO → Prop) (K : mK) (L st : List Value) (w : mW) (g : mG) (d : Nat), stW k J Q (pc, .invokevirtual d, x, y, 16, u, v) K L st w g = (match (st.take y).reverse with | .ref a :: b => w_sh w a = (0, 6) ∧ y ≤ st.length ∧ v_ct (st.drop y) ≤ 8 ∧ u ≤ g.1 ∧ v ≤ g.2.1 ∧ CT x (.ref a :: b) w (fun w' o => match o with | .inl a => (g.2.2 = true → w_n w' = w_n w + u) ∧ K L (a.toList ++ st.drop y) w' (g.1 - u, g.2.1 - v, g.2.2) | .inr E => match m_hh k with | [] => Q w' (.inr E) | _ => E = 0 ∧ Q w' (.inl (some (.int (Int32.ofInt (-1000)))))) | _ => False)) ∧
  (∀ (k pc x y u v : Nat) (J : Int → mK) (Q : mW → mO → Prop) (K : mK) (L st : List Value) (w : mW) (g : mG) (d : Nat), stW k J Q (pc, .invokevirtual d, x, y, 17, u, v) K L st w g = (match (st.take y).reverse with | .ref a :: b => w_sh w a = (0, 7) ∧ y ≤ st.length ∧ v_ct (st.drop y) ≤ 8 ∧ u ≤ g.1 ∧ v ≤ g.2.1 ∧ CT x (.ref a :: b) w (fun w' o => match o with | .inl a => (g.2.2 = true → w_n w' = w_n w + u) ∧ K L (a.toList ++ st.drop y) w' (g.1 - u, g.2.1 - v, g.2.2) | .inr E => match m_hh k with | [] => Q w' (.inr E) | _ => E = 0 ∧ Q w' (.inl (some (.int (Int32.ofInt (-1000)))))) | _ => False)) ∧
  (∀ (k pc x y u v : Nat) (J : Int → mK) (Q : mW → mO → Prop) (K : mK) (L st : List Value) (w : mW) (g : mG) (d : Nat), stW k J Q (pc, .invokevirtual d, x, y, 18, u, v) K L st w g = (match (st.take y).reverse with | .ref a :: b => w_sh w a = (0, 8) ∧ y ≤ st.length ∧ v_ct (st.drop y) ≤ 8 ∧ u ≤ g.1 ∧ v ≤ g.2.1 ∧ CT x (.ref a :: b) w (fun w' o => match o with | .inl a => (g.2.2 = true → w_n w' = w_n w + u) ∧ K L (a.toList ++ st.drop y) w' (g.1 - u, g.2.1 - v, g.2.2) | .inr E => match m_hh k with | [] => Q w' (.inr E) | _ => E = 0 ∧ Q w' (.inl (some (.int (Int32.ofInt (-1000)))))) | _ => False)) ∧
  (∀ (k pc x y u v : Nat) (J : Int → mK) (Q : mW → mO → Prop) (K : mK) (L st : List Value) (w : mW) (g : mG) (d : Nat), stW k J Q (pc, .invokevirtual d, x, y, 19, u, v) K L st w g = (match (st.take y).reverse with | .ref a :: b => w_sh w a = (0, 9) ∧ y ≤ st.length ∧ v_ct (st.drop y) ≤ 8 ∧ u ≤ g.1 ∧ v ≤ g.2.1 ∧ CT x (.ref a :: b) w (fun w' o => match o with | .inl a => (g.2.2 = true → w_n w' = w_n w + u) ∧ K L (a.toList ++ st.drop y) w' (g.1 - u, g.2.1 - v, g.2.2) | .inr E => match m_hh k with | [] => Q w' (.inr E) | _ => E = 0 ∧ Q w' (.inl (some (.int (Int32.ofInt (-1000)))))) | _ => False)) ∧
  (∀ (k pc x y u v : Nat) (J : Int → mK) (Q : mW → mO → Prop) (K : mK) (L st : List Value) (w : mW) (g : mG) (d : Nat), stW k J Q (pc, .invokevirtual d, x, y, 20, u, v) K L st w g = (match (st.take y).reverse with | .ref a :: b => w_sh w a = (0, 10) ∧ y ≤ st.length ∧ v_ct (st.drop y) ≤ 8 ∧ u ≤ g.1 ∧ v ≤ g.2.1 ∧ CT x (.ref a :: b) w (fun w' o => match o with | .inl a => (g.2.2 = true → w_n w' = w_n w + u) ∧ K L (a.toList ++ st.drop y) w' (g.1 - u, g.2.1 - v, g.2.2) | .inr E => match m_hh k with | [] => Q w' (.inr E) | _ => E = 0 ∧ Q w' (.inl (some (.int (Int32.ofInt (-1000)))))) | _ => False)) ∧
  (∀ (k pc x y u v : Nat) (J : Int → mK) (Q : mW → mO → Prop) (K : mK) (L st : List Value) (w : mW) (g : mG) (d : Nat), stW k J Q (pc, .invokevirtual d, x, y, 22, u, v) K L st w g = (match (st.take y).reverse with | .ref a :: b => w_sh w a = (0, 12) ∧ y ≤ st.length ∧ v_ct (st.drop y) ≤ 8 ∧ u ≤ g.1 ∧ v ≤ g.2.1 ∧ CT x (.ref a :: b) w (fun w' o => match o with | .inl a => (g.2.2 = true → w_n w' = w_n w + u) ∧ K L (a.toList ++ st.drop y) w' (g.1 - u, g.2.1 - v, g.2.2) | .inr E => match m_hh k with | [] => Q w' (.inr E) | _ => E = 0 ∧ Q w' (.inl (some (.int (Int32.ofInt (-1000)))))) | _ => False)) ∧
  (∀ (k pc x y u v : Nat) (J : Int → mK) (Q : mW → mO → Prop) (K : mK) (L st : List Value) (w : mW) (g : mG) (d : Nat), stW k J Q (pc, .invokevirtual d, x, y, 7, u, v) K L st w g = (match (st.take y).reverse with | .ref a :: b => w_sh w a = (0, 12) ∧ y ≤ st.length ∧ v_ct (st.drop y) ≤ 8 ∧ u ≤ g.1 ∧ v ≤ g.2.1 ∧ CT x (.ref a :: b) w (fun w' o => match o with | .inl a => (g.2.2 = true → w_n w' = w_n w + u) ∧ K L (a.toList ++ st.drop y) w' (g.1 - u, g.2.1 - v, g.2.2) | .inr _ => False) | _ => False)) ∧
  (∀ (k pc x y u v : Nat) (J : Int → mK) (Q : mW → mO → Prop) (K : mK) (L st : List Value) (w : mW) (g : mG) (d : Nat), stW k J Q (pc, .invokevirtual d, x, y, 8, u, v) K L st w g = (match (st.take y).reverse with | .ref a :: b => w_sh w a = (0, 12) ∧ y ≤ st.length ∧ v_ct (st.drop y) ≤ 8 ∧ u ≤ g.1 ∧ v ≤ g.2.1 ∧ CT x (.ref a :: b) w (fun w' o => match o with | .inl a => (g.2.2 = true → w_n w' = w_n w + u) ∧ K L (a.toList ++ st.drop y) w' (g.1 - u, g.2.1 - v, g.2.2) | .inr _ => False) | _ => False)) ∧
  (∀ (k pc x y u v : Nat) (J : Int → mK) (Q : mW → mO → Prop) (K : mK) (L st : List Value) (w : mW) (g : mG) (d : Nat), stW k J Q (pc, .invokevirtual d, x, y, 9, u, v) K L st w g = (match (st.take y).reverse with | .ref a :: b => w_sh w a = (0, 12) ∧ y ≤ st.length ∧ v_ct (st.drop y) ≤ 8 ∧ u ≤ g.1 ∧ v ≤ g.2.1 ∧ CT x (.ref a :: b) w (fun w' o => match o with | .inl a => (g.2.2 = true → w_n w' = w_n w + u) ∧ K L (a.toList ++ st.drop y) w' (g.1 - u, g.2.1 - v, g.2.2) | .inr _ => False) | _ => False)) ∧
  (∀ (k pc x y u v : Nat) (J : Int → mK) (Q : mW → mO → Prop) (K : mK) (L st : List Value) (w : mW) (g : mG) (d : Nat), stW k J Q (pc, .invokevirtual d, x, y, 21, u, v) K L st w g = (match (st.take y).reverse with | .ref a :: b => (w_sh w a = (0, 11) ∨ Nat.le 2 a ∧ Nat.lt a 18) ∧ y ≤ st.length ∧ v_ct (st.drop y) ≤ 8 ∧ u ≤ g.1 ∧ v ≤ g.2.1 ∧ CT x (.ref a :: b) w (fun w' o => match o with | .inl a => (g.2.2 = true → w_n w' = w_n w + u) ∧ K L (a.toList ++ st.drop y) w' (g.1 - u, g.2.1 - v, g.2.2) | .inr _ => False) | _ => False)) ∧
  (∀ (k pc y u v : Nat) (J : Int → mK) (Q : mW → mO → Prop) (K : mK) (L st : List Value) (w : mW) (ga gb : Nat) (d : Nat), stW k J Q (pc, .invokevirtual d, 0, y, 6, u, v) K L st w (ga, gb, true) = (match st with | .ref a :: r => (w_sh w a).1 = 1 ∧ v_ct r ≤ 8 ∧ 1 ≤ ga ∧ (w_sh w a).2 ≤ gb ∧ K L (.ref (100 + w_n w) :: r) (s_C w a) (ga - 1, gb - (w_sh w a).2, true) | _ => False)) ∧
  (∀ (k pc y u v : Nat) (J : Int → mK) (Q : mW → mO → Prop) (K : mK) (L st : List Value) (w : mW) (ga gb : Nat) (d : Nat), stW k J Q (pc, .invokevirtual d, 2, y, 6, u, v) K L st w (ga, gb, true) = (match st with | .ref a :: r => (w_sh w a).1 = 3 ∧ (∀ i, i < (w_sh w a).2 → fits .byte (.int (w_I w a i)) = true) ∧ v_ct r ≤ 8 ∧ 1 ≤ ga ∧ (w_sh w a).2 ≤ gb ∧ K L (.ref (100 + w_n w) :: r) (s_C w a) (ga - 1, gb - (w_sh w a).2, true) | _ => False)) ∧
  (∀ (k pc y u v : Nat) (J : Int → mK) (Q : mW → mO → Prop) (K : mK) (L st : List Value) (w : mW) (ga gb : Nat) (d : Nat), stW k J Q (pc, .invokevirtual d, 0, y, 6, u, v) K L st w (ga, gb, false) = (match st with | .ref a :: r => (w_sh w a).1 = 1 ∧ v_ct r ≤ 8 ∧ 1 ≤ ga ∧ (w_sh w a).2 ≤ gb ∧ (∀ q, w_n w ≤ q → K L (.ref (100 + q) :: r) (s_C (s_K w q) a) (ga - 1, gb - (w_sh w a).2, false)) | _ => False)) ∧
  (∀ (k pc y u v : Nat) (J : Int → mK) (Q : mW → mO → Prop) (K : mK) (L st : List Value) (w : mW) (ga gb : Nat) (d : Nat), stW k J Q (pc, .invokevirtual d, 2, y, 6, u, v) K L st w (ga, gb, false) = (match st with | .ref a :: r => (w_sh w a).1 = 3 ∧ (∀ i, i < (w_sh w a).2 → fits .byte (.int (w_I w a i)) = true) ∧ v_ct r ≤ 8 ∧ 1 ≤ ga ∧ (w_sh w a).2 ≤ gb ∧ (∀ q, w_n w ≤ q → K L (.ref (100 + q) :: r) (s_C (s_K w q) a) (ga - 1, gb - (w_sh w a).2, false)) | _ => False)) ∧
  (∀ (k pc x y u v : Nat) (J : Int → mK) (Q : mW → mO → Prop) (K : mK) (L st : List Value) (w : mW) (ga gb : Nat) (d : Nat), stW k J Q (pc, .invokespecial d, x, y, 0, u, v) K L st w (ga, gb, true) = (match (st.take y).reverse with | .ref a :: b => y ≤ st.length ∧ v_ct (st.drop y) ≤ 8 ∧ u ≤ ga ∧ v ≤ gb ∧ CT x (.ref a :: b) w (fun w' o => match o with | .inl a => w_n w' = w_n w + u ∧ K L (a.toList ++ st.drop y) w' (ga - u, gb - v, true) | .inr _ => False) | _ => False)) ∧
  (∀ (k pc x y u v : Nat) (J : Int → mK) (Q : mW → mO → Prop) (K : mK) (L st : List Value) (w : mW) (ga gb : Nat) (d : Nat), stW k J Q (pc, .invokespecial d, x, y, 0, u, v) K L st w (ga, gb, false) = (match (st.take y).reverse with | .ref a :: b => y ≤ st.length ∧ v_ct (st.drop y) ≤ 8 ∧ u ≤ ga ∧ v ≤ gb ∧ (∀ q, w_n w ≤ q → CT x (.ref a :: b) (s_K w q) (fun w' o => match o with | .inl a => K L (a.toList ++ st.drop y) w' (ga - u, gb - v, false) | .inr _ => False)) | _ => False)) ∧
  (∀ (k pc x y u v : Nat) (J : Int → mK) (Q : mW → mO → Prop) (K : mK) (L st : List Value) (w : mW) (ga gb : Nat) (d : Nat), stW k J Q (pc, .invokespecial d, x, y, 5, u, v) K L st w (ga, gb, true) = (match (st.take y).reverse with | .ref a :: b => y ≤ st.length ∧ v_ct (st.drop y) ≤ 8 ∧ u ≤ ga ∧ v ≤ gb ∧ CT x (.ref a :: b) w (fun w' o => match o with | .inl a => w_n w' = w_n w + u ∧ K L (a.toList ++ st.drop y) w' (ga - u, gb - v, true) | .inr _ => False) | _ => False)) ∧
  (∀ (k pc x y u v : Nat) (J : Int → mK) (Q : mW → mO → Prop) (K : mK) (L st : List Value) (w : mW) (ga gb : Nat) (d : Nat), stW k J Q (pc, .invokespecial d, x, y, 5, u, v) K L st w (ga, gb, false) = (match (st.take y).reverse with | .ref a :: b => y ≤ st.length ∧ v_ct (st.drop y) ≤ 8 ∧ u ≤ ga ∧ v ≤ gb ∧ (∀ q, w_n w ≤ q → CT x (.ref a :: b) (s_K w q) (fun w' o => match o with | .inl a => K L (a.toList ++ st.drop y) w' (ga - u, gb - v, false) | .inr _ => False)) | _ => False)) ∧
  (∀ (k pc x y u v : Nat) (J : Int → mK) (Q : mW → mO → Prop) (K : mK) (L st : List Value) (w : mW) (g : mG) (d : Nat), stW k J Q (pc, .invokespecial d, x, y, 6, u, v) K L st w g = (match (st.take y).reverse with | .ref a :: b => y ≤ st.length ∧ v_ct (st.drop y) ≤ 8 ∧ u ≤ g.1 ∧ v ≤ g.2.1 ∧ CT x (.ref a :: b) w (fun w' o => match o with | .inl a => (g.2.2 = true → w_n w' = w_n w + u) ∧ K L (a.toList ++ st.drop y) w' (g.1 - u, g.2.1 - v, g.2.2) | .inr _ => False) | _ => False)) ∧
  (∀ (k pc x y u v : Nat) (J : Int → mK) (Q : mW → mO → Prop) (K : mK) (L st : List Value) (w : mW) (g : mG) (d : Nat), stW k J Q (pc, .invokespecial d, x, y, 7, u, v) K L st w g = (match (st.take y).reverse with | .ref a :: b => w_sh w a = (0, 12) ∧ y ≤ st.length ∧ v_ct (st.drop y) ≤ 8 ∧ u ≤ g.1 ∧ v ≤ g.2.1 ∧ CT x (.ref a :: b) w (fun w' o => match o with | .inl a => (g.2.2 = true → w_n w' = w_n w + u) ∧ K L (a.toList ++ st.drop y) w' (g.1 - u, g.2.1 - v, g.2.2) | .inr _ => False) | _ => False)) ∧
  (∀ (k pc x y u v : Nat) (J : Int → mK) (Q : mW → mO → Prop) (K : mK) (L st : List Value) (w : mW) (g : mG) (d : Nat), stW k J Q (pc, .invokespecial d, x, y, 1, u, v) K L st w g = (match st with | .ref _ :: r => v_ct r ≤ 8 ∧ K L r w g | _ => False)) ∧
  (∀ (k pc x y u v : Nat) (J : Int → mK) (Q : mW → mO → Prop) (K : mK) (L st : List Value) (w : mW) (g : mG) (d : Nat), stW k J Q (pc, .invokestatic d, x, y, 0, u, v) K L st w g = (y ≤ st.length ∧ v_ct (st.drop y) ≤ 8 ∧ u ≤ g.1 ∧ v ≤ g.2.1 ∧ CT x (st.take y).reverse w (fun w' o => match o with | .inl a => (g.2.2 = true → w_n w' = w_n w + u) ∧ K L (a.toList ++ st.drop y) w' (g.1 - u, g.2.1 - v, g.2.2) | .inr E => match m_hh k with | [] => Q w' (.inr E) | _ => False))) ∧
  (∀ (k pc x y u v : Nat) (J : Int → mK) (Q : mW → mO → Prop) (K : mK) (L st : List Value) (w : mW) (g : mG) (d : Nat), stW k J Q (pc, .invokestatic d, x, y, 8, u, v) K L st w g = (y ≤ st.length ∧ v_ct (st.drop y) ≤ 8 ∧ u ≤ g.1 ∧ v ≤ g.2.1 ∧ CT x (st.take y).reverse w (fun w' o => match o with | .inl a => (g.2.2 = true → w_n w' = w_n w + u) ∧ K L (a.toList ++ st.drop y) w' (g.1 - u, g.2.1 - v, g.2.2) | .inr _ => False))) ∧
  (∀ (k pc y u v : Nat) (J : Int → mK) (Q : mW → mO → Prop) (K : mK) (L st : List Value) (w : mW) (g : mG) (d : Nat), stW k J Q (pc, .invokestatic d, 0, y, 2, u, v) K L st w g = (match st with | .int n :: .int dp :: .ref b :: .int sp :: .ref a :: r => (w_sh w a).1 = 1 ∧ (w_sh w b).1 = 1 ∧ ¬ sp < 0 ∧ ¬ dp < 0 ∧ ¬ n < 0 ∧ sp.toNatClampNeg + n.toNatClampNeg ≤ (w_sh w a).2 ∧ dp.toNatClampNeg + n.toNatClampNeg ≤ (w_sh w b).2 ∧ v_ct r ≤ 8 ∧ K L r (s_A w b (va_cpy (w_I w a) (w_I w b) sp.toNatClampNeg dp.toNatClampNeg n.toNatClampNeg)) g | _ => False)) ∧
  (∀ (k pc y u v : Nat) (J : Int → mK) (Q : mW → mO → Prop) (K : mK) (L st : List Value) (w : mW) (g : mG) (d : Nat), stW k J Q (pc, .invokestatic d, 2, y, 2, u, v) K L st w g = (match st with | .int n :: .int dp :: .ref b :: .int sp :: .ref a :: r => (w_sh w b).1 = 3 ∧ ¬ sp < 0 ∧ ¬ dp < 0 ∧ ¬ n < 0 ∧ dp.toNatClampNeg + n.toNatClampNeg ≤ (w_sh w b).2 ∧ v_ct r ≤ 8 ∧ (Nat.lt a 100 → Nat.le 52 a ∧ Nat.lt a 68 ∧ sp.toNatClampNeg + n.toNatClampNeg ≤ s_len (a - 52) ∧ K L r (s_A w b (va_cpy (s_ch (a - 52)) (w_I w b) sp.toNatClampNeg dp.toNatClampNeg n.toNatClampNeg)) g) ∧ (Nat.le 100 a → (w_sh w a).1 = 3 ∧ (∀ i, i < n.toNatClampNeg → fits .byte (.int (w_I w a (sp.toNatClampNeg + i))) = true) ∧ sp.toNatClampNeg + n.toNatClampNeg ≤ (w_sh w a).2 ∧ K L r (s_A w b (va_cpy (w_I w a) (w_I w b) sp.toNatClampNeg dp.toNatClampNeg n.toNatClampNeg)) g) | _ => False)) ∧
  (∀ (k pc x y z u v : Nat) (J : Int → mK) (Q : mW → mO → Prop) (K : mK) (L st : List Value) (w : mW) (g : mG), stW k J Q (pc, .ireturn, x, y, z, u, v) K L st w g = (match st with | [.int a] => (match m_r k with | some .int => Q w (.inl (some (.int a))) | some .char => 0 ≤ a.toInt ∧ a.toInt < 65536 ∧ Q w (.inl (some (.int a))) | _ => (a = 0 ∨ a = 1) ∧ Q w (.inl (some (.int a)))) | _ => False)) ∧
  (∀ (k pc x y z u v : Nat) (J : Int → mK) (Q : mW → mO → Prop) (K : mK) (L st : List Value) (w : mW) (g : mG), stW k J Q (pc, .areturn, x, y, z, u, v) K L st w g = (match st with | [.ref a] => Q w (.inl (some (.ref a))) | _ => False)) ∧
  (∀ (k pc x y z u v : Nat) (J : Int → mK) (Q : mW → mO → Prop) (K : mK) (L st : List Value) (w : mW) (g : mG), stW k J Q (pc, .lreturn, x, y, z, u, v) K L st w g = (match st with | [.long a] => Q w (.inl (some (.long a))) | _ => False)) ∧
  (∀ (k pc x y z u v : Nat) (J : Int → mK) (Q : mW → mO → Prop) (K : mK) (L st : List Value) (w : mW) (g : mG), stW k J Q (pc, .freturn, x, y, z, u, v) K L st w g = (match st with | [.float a] => Q w (.inl (some (.float a))) | _ => False)) ∧
  (∀ (k pc x y z u v : Nat) (J : Int → mK) (Q : mW → mO → Prop) (K : mK) (L st : List Value) (w : mW) (g : mG), stW k J Q (pc, .return_, x, y, z, u, v) K L st w g = (match st with | [] => Q w (.inl none) | _ => False)) := by
  refine ⟨?_, ?_, ?_, ?_, ?_, ?_, ?_, ?_, ?_, ?_, ?_, ?_, ?_, ?_, ?_, ?_, ?_, ?_, ?_, ?_, ?_, ?_, ?_, ?_, ?_, ?_, ?_, ?_, ?_, ?_, ?_, ?_, ?_, ?_, ?_, ?_, ?_, ?_, ?_, ?_, ?_, ?_, ?_, ?_, ?_, ?_, ?_, ?_, ?_, ?_, ?_, ?_, ?_, ?_, ?_, ?_, ?_, ?_, ?_, ?_, ?_, ?_, ?_, ?_, ?_, ?_, ?_, ?_, ?_, ?_, ?_, ?_, ?_, ?_, ?_, ?_, ?_, ?_, ?_, ?_, ?_, ?_, ?_, ?_, ?_, ?_, ?_, ?_, ?_, ?_, ?_, ?_, ?_, ?_, ?_, ?_, ?_, ?_, ?_, ?_, ?_, ?_, ?_, ?_, ?_, ?_, ?_, ?_, ?_, ?_, ?_, ?_, ?_, ?_, ?_, ?_, ?_, ?_, ?_, ?_, ?_, ?_, ?_, ?_, ?_, ?_, ?_, ?_, ?_, ?_, ?_, ?_, ?_, ?_, ?_, ?_, ?_, ?_, ?_, ?_, ?_, ?_, ?_, ?_, ?_, ?_, ?_, ?_, ?_, ?_, ?_, ?_, ?_, ?_, ?_, ?_, ?_, ?_, ?_, ?_, ?_, ?_, ?_, ?_, ?_, ?_, ?_, ?_, ?_, ?_, ?_, ?_⟩
  · intros; rfl
  · intros; rfl
  · intros; rfl
  · intros; rfl
  · intros; rfl
  · intros; rfl
  · intros; rfl
  · intros; rfl
  · intros; rfl
  · intros; rfl
  · intros; rfl
  · intros; rfl
  · intros; rfl
  · intros; rfl
  · intros; rfl
  · intros; rfl
  · intros; rfl
  · intros; rfl
  · intros; rfl
  · intros; rfl
  · intros; rfl
  · intros; rfl
  · intros; rfl
  · intros; rfl
  · intros; rfl
  · intros; rfl
  · intros; rfl
  · intros; rfl
  · intros; rfl
  · intros; rfl
  · intros; rfl
  · intros; rfl
  · intros; rfl
  · intros; rfl
  · intros; rfl
  · intros; rfl
  · intros; rfl
  · intros; rfl
  · intros; rfl
  · intros; rfl
  · intros; rfl
  · intros; rfl
  · intros; rfl
  · intros; rfl
  · intros; rfl
  · intros; rfl
  · intros; rfl
  · intros; rfl
  · intros; rfl
  · intros; rfl
  · intros; rfl
  · intros; rfl
  · intros; rfl
  · intros; rfl
  · intros; rfl
  · intros; rfl
  · intros; rfl
  · intros; rfl
  · intros; rfl
  · intros; rfl
  · intros; rfl
  · intros; rfl
  · intros; rfl
  · intros; rfl
  · intros; rfl
  · intros; rfl
  · intros; rfl
  · intros; rfl
  · intros; rfl
  · intros; rfl
  · intros; rfl
  · intros; rfl
  · intros; rfl
  · intros; rfl
  · intros; rfl
  · intros; rfl
  · intros; rfl
  · intros; rfl
  · intros; rfl
  · intros; rfl
  · intros; rfl
  · intros; rfl
  · intros; rfl
  · intros; rfl
  · intros; rfl
  · intros; rfl
  · intros; rfl
  · intros; rfl
  · intros; rfl
  · intros; rfl
  · intros; rfl
  · intros; rfl
  · intros; rfl
  · intros; rfl
  · intros; rfl
  · intros; rfl
  · intros; rfl
  · intros; rfl
  · intros; rfl
  · intros; rfl
  · intros; rfl
  · intros; rfl
  · intros; rfl
  · intros; rfl
  · intros; rfl
  · intros; rfl
  · intros; rfl
  · intros; rfl
  · intros; rfl
  · intros; rfl
  · intros; rfl
  · intros; rfl
  · intros; rfl
  · intros; rfl
  · intros; rfl
  · intros; rfl
  · intros; rfl
  · intros; rfl
  · intros; rfl
  · intros; rfl
  · intros; rfl
  · intros; rfl
  · intros; rfl
  · intros; rfl
  · intros; rfl
  · intros; rfl
  · intros; rfl
  · intros; rfl
  · intros; rfl
  · intros; rfl
  · intros; rfl
  · intros; rfl
  · intros; rfl
  · intros; rfl
  · intros; rfl
  · intros; rfl
  · intros; rfl
  · intros; rfl
  · intros; rfl
  · intros; rfl
  · intros; rfl
  · intros; rfl
  · intros; rfl
  · intros; rfl
  · intros; rfl
  · intros; rfl
  · intros; rfl
  · intros; rfl
  · intros; rfl
  · intros; rfl
  · intros; rfl
  · intros; rfl
  · intros; simp only [stW]; split <;> simp
  · intros; simp only [stW]; split <;> simp
  · intros; simp only [stW]; split <;> simp
  · intros; simp only [stW]; split <;> simp
  · intros; rfl
  · intros; rfl
  · intros; rfl
  · intros; rfl
  · intros; rfl
  · intros; rfl
  · intros; rfl
  · intros; rfl
  · intros; rfl
  · intros; rfl
  · intros; rfl
  · intros; rfl
  · intros; rfl
  · intros; rfl
  · intros; rfl
  · intros; rfl
