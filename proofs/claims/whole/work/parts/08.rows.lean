section ZR
variable {C : zC} {G : zG} {cc : ByteArray} {nL : Nat} {Ts : List Cond} {own : String} {k n pc : Nat} {L : List (Nat × Value)} {rest : List Value} {m : zM} {P : Heap → Prop}
theorem zx_iconst (hF : zF0 C cc nL Ts own) {i : Int} {v : Int32} (hdg : decode cc pc = .ok (.iconst i, 1)) (hv : Int32.ofInt i = v)
    (K : zX C nL k n (pc + 1) L (.int v :: rest) P) : zX C nL k n pc L (rest) P := fun H locs ls hP hS hl => lv_iconst hF.1 hF.2.1 hdg hv (K H locs ls hP hS hl)
theorem zx_bipush (hF : zF0 C cc nL Ts own) {i : Int} {v : Int32} (hdg : decode cc pc = .ok (.bipush i, 2)) (hv : (Int8.ofInt i).toInt32 = v)
    (K : zX C nL k n (pc + 2) L (.int v :: rest) P) : zX C nL k n pc L (rest) P := fun H locs ls hP hS hl => lv_bipush hF.1 hF.2.1 hdg hv (K H locs ls hP hS hl)
theorem zx_sipush (hF : zF0 C cc nL Ts own) {i : Int} {v : Int32} (hdg : decode cc pc = .ok (.sipush i, 3)) (hv : (Int16.ofInt i).toInt32 = v)
    (K : zX C nL k n (pc + 3) L (.int v :: rest) P) : zX C nL k n pc L (rest) P := fun H locs ls hP hS hl => lv_sipush hF.1 hF.2.1 hdg hv (K H locs ls hP hS hl)
theorem zx_lconst (hF : zF0 C cc nL Ts own) {i : Fin 2} {v : Int64} (hdg : decode cc pc = .ok (.lconst i, 1)) (hv : Int64.ofNat (i : Nat) = v)
    (K : zX C nL k n (pc + 1) L (.long v :: rest) P) : zX C nL k n pc L (rest) P := fun H locs ls hP hS hl => lv_lconst hF.1 hF.2.1 hdg hv (K H locs ls hP hS hl)
theorem zx_iload_n (hF : zF0 C cc nL Ts own) {i : Fin 4} {x : Int32} (q : Nat) (hdg : decode cc pc = .ok (.iload_n i, 1)) (hq : L[q]? = some ((i : Nat), .int x))
    (K : zX C nL k n (pc + 1) L (.int x :: rest) P) : zX C nL k n pc L rest P := fun H locs ls hP hS hl => lv_iload_n hF.1 hF.2.1 hdg rfl (lv_at hl q hq) (K H locs ls hP hS hl)
theorem zx_iload (hF : zF0 C cc nL Ts own) {i : Nat} {x : Int32} (q : Nat) (hdg : decode cc pc = .ok (.iload i, 2)) (hq : L[q]? = some (i, .int x))
    (K : zX C nL k n (pc + 2) L (.int x :: rest) P) : zX C nL k n pc L rest P := fun H locs ls hP hS hl => lv_iload hF.1 hF.2.1 hdg (lv_at hl q hq) (K H locs ls hP hS hl)
theorem zx_istore_n (hF : zF0 C cc nL Ts own) {i : Fin 4} {x : Int32} {L' : List (Nat × Value)} (hdg : decode cc pc = .ok (.istore_n i, 1)) (hn : (i : Nat) < nL) (hl' : ((i : Nat), Value.int x) :: L.filter (fun q => !(q.1 == (i : Nat)) && !(q.1 + 1 == (i : Nat) && q.2.category == 2)) = L')
    (K : zX C nL k n (pc + 1) L' rest P) : zX C nL k n pc L (.int x :: rest) P := fun H locs ls hP hS hl => lv_istore_n hF.1 hF.2.1 hdg rfl hl hn hl' (fun ls' hl2 => K H locs ls' hP hS hl2)
theorem zx_istore (hF : zF0 C cc nL Ts own) {i : Nat} {x : Int32} {L' : List (Nat × Value)} (hdg : decode cc pc = .ok (.istore i, 2)) (hn : i < nL) (hl' : (i, Value.int x) :: L.filter (fun q => !(q.1 == i) && !(q.1 + 1 == i && q.2.category == 2)) = L')
    (K : zX C nL k n (pc + 2) L' rest P) : zX C nL k n pc L (.int x :: rest) P := fun H locs ls hP hS hl => lv_istore hF.1 hF.2.1 hdg hl hn hl' (fun ls' hl2 => K H locs ls' hP hS hl2)
theorem zx_lload_n (hF : zF0 C cc nL Ts own) {i : Fin 4} {x : Int64} (q : Nat) (hdg : decode cc pc = .ok (.lload_n i, 1)) (hq : L[q]? = some ((i : Nat), .long x))
    (K : zX C nL k n (pc + 1) L (.long x :: rest) P) : zX C nL k n pc L rest P := fun H locs ls hP hS hl => lv_lload_n hF.1 hF.2.1 hdg rfl (lv_at hl q hq) (K H locs ls hP hS hl)
theorem zx_lload (hF : zF0 C cc nL Ts own) {i : Nat} {x : Int64} (q : Nat) (hdg : decode cc pc = .ok (.lload i, 2)) (hq : L[q]? = some (i, .long x))
    (K : zX C nL k n (pc + 2) L (.long x :: rest) P) : zX C nL k n pc L rest P := fun H locs ls hP hS hl => lv_lload hF.1 hF.2.1 hdg (lv_at hl q hq) (K H locs ls hP hS hl)
theorem zx_lstore_n (hF : zF0 C cc nL Ts own) {i : Fin 4} {x : Int64} {L' : List (Nat × Value)} (hdg : decode cc pc = .ok (.lstore_n i, 1)) (hn : (i : Nat) + 1 < nL) (hl' : ((i : Nat), Value.long x) :: L.filter (fun q => !(q.1 == (i : Nat)) && (!(q.1 == (i : Nat) + 1) && !(q.1 + 1 == (i : Nat) && q.2.category == 2))) = L')
    (K : zX C nL k n (pc + 1) L' rest P) : zX C nL k n pc L (.long x :: rest) P := fun H locs ls hP hS hl => lv_lstore_n hF.1 hF.2.1 hdg rfl hl hn hl' (fun ls' hl2 => K H locs ls' hP hS hl2)
theorem zx_lstore (hF : zF0 C cc nL Ts own) {i : Nat} {x : Int64} {L' : List (Nat × Value)} (hdg : decode cc pc = .ok (.lstore i, 2)) (hn : i + 1 < nL) (hl' : (i, Value.long x) :: L.filter (fun q => !(q.1 == i) && (!(q.1 == i + 1) && !(q.1 + 1 == i && q.2.category == 2))) = L')
    (K : zX C nL k n (pc + 2) L' rest P) : zX C nL k n pc L (.long x :: rest) P := fun H locs ls hP hS hl => lv_lstore hF.1 hF.2.1 hdg hl hn hl' (fun ls' hl2 => K H locs ls' hP hS hl2)
theorem zx_aload_n (hF : zF0 C cc nL Ts own) {i : Fin 4} {x : Nat} (q : Nat) (hdg : decode cc pc = .ok (.aload_n i, 1)) (hq : L[q]? = some ((i : Nat), .ref x))
    (K : zX C nL k n (pc + 1) L (.ref x :: rest) P) : zX C nL k n pc L rest P := fun H locs ls hP hS hl => lv_aload_n hF.1 hF.2.1 hdg rfl (lv_at hl q hq) (K H locs ls hP hS hl)
theorem zx_aload (hF : zF0 C cc nL Ts own) {i : Nat} {x : Nat} (q : Nat) (hdg : decode cc pc = .ok (.aload i, 2)) (hq : L[q]? = some (i, .ref x))
    (K : zX C nL k n (pc + 2) L (.ref x :: rest) P) : zX C nL k n pc L rest P := fun H locs ls hP hS hl => lv_aload hF.1 hF.2.1 hdg (lv_at hl q hq) (K H locs ls hP hS hl)
theorem zx_astore_n (hF : zF0 C cc nL Ts own) {i : Fin 4} {x : Nat} {L' : List (Nat × Value)} (hdg : decode cc pc = .ok (.astore_n i, 1)) (hn : (i : Nat) < nL) (hl' : ((i : Nat), Value.ref x) :: L.filter (fun q => !(q.1 == (i : Nat)) && !(q.1 + 1 == (i : Nat) && q.2.category == 2)) = L')
    (K : zX C nL k n (pc + 1) L' rest P) : zX C nL k n pc L (.ref x :: rest) P := fun H locs ls hP hS hl => lv_astore_n hF.1 hF.2.1 hdg rfl hl hn hl' (fun ls' hl2 => K H locs ls' hP hS hl2)
theorem zx_astore (hF : zF0 C cc nL Ts own) {i : Nat} {x : Nat} {L' : List (Nat × Value)} (hdg : decode cc pc = .ok (.astore i, 2)) (hn : i < nL) (hl' : (i, Value.ref x) :: L.filter (fun q => !(q.1 == i) && !(q.1 + 1 == i && q.2.category == 2)) = L')
    (K : zX C nL k n (pc + 2) L' rest P) : zX C nL k n pc L (.ref x :: rest) P := fun H locs ls hP hS hl => lv_astore hF.1 hF.2.1 hdg hl hn hl' (fun ls' hl2 => K H locs ls' hP hS hl2)
theorem zx_aload_nN (hF : zF0 C cc nL Ts own) {i : Fin 4} (q : Nat) (hdg : decode cc pc = .ok (.aload_n i, 1)) (hq : L[q]? = some ((i : Nat), .null))
    (K : zX C nL k n (pc + 1) L (.null :: rest) P) : zX C nL k n pc L rest P := fun H locs ls hP hS hl => lv_aload_nN hF.1 hF.2.1 hdg rfl (lv_at hl q hq) (K H locs ls hP hS hl)
theorem zx_astore_nN (hF : zF0 C cc nL Ts own) {i : Fin 4} {L' : List (Nat × Value)} (hdg : decode cc pc = .ok (.astore_n i, 1)) (hn : (i : Nat) < nL) (hl' : ((i : Nat), Value.null) :: L.filter (fun q => !(q.1 == (i : Nat)) && !(q.1 + 1 == (i : Nat) && q.2.category == 2)) = L')
    (K : zX C nL k n (pc + 1) L' rest P) : zX C nL k n pc L (.null :: rest) P := fun H locs ls hP hS hl => lv_astore_nN hF.1 hF.2.1 hdg rfl hl hn hl' (fun ls' hl2 => K H locs ls' hP hS hl2)
theorem zx_aloadN (hF : zF0 C cc nL Ts own) {i : Nat} (q : Nat) (hdg : decode cc pc = .ok (.aload i, 2)) (hq : L[q]? = some (i, .null))
    (K : zX C nL k n (pc + 2) L (.null :: rest) P) : zX C nL k n pc L rest P := fun H locs ls hP hS hl => lv_aloadN hF.1 hF.2.1 hdg (lv_at hl q hq) (K H locs ls hP hS hl)
theorem zx_astoreN (hF : zF0 C cc nL Ts own) {i : Nat} {L' : List (Nat × Value)} (hdg : decode cc pc = .ok (.astore i, 2)) (hn : i < nL) (hl' : (i, Value.null) :: L.filter (fun q => !(q.1 == i) && !(q.1 + 1 == i && q.2.category == 2)) = L')
    (K : zX C nL k n (pc + 2) L' rest P) : zX C nL k n pc L (.null :: rest) P := fun H locs ls hP hS hl => lv_astoreN hF.1 hF.2.1 hdg hl hn hl' (fun ls' hl2 => K H locs ls' hP hS hl2)
theorem zx_iinc (hF : zF0 C cc nL Ts own) {i : Nat} {d : Int} {x v : Int32} {L' : List (Nat × Value)} (q : Nat) (hdg : decode cc pc = .ok (.iinc i d, 3)) (hq : L[q]? = some (i, .int x)) (hv : x + Int32.ofInt d = v) (hn : i < nL) (hl' : (i, Value.int v) :: L.filter (fun q => !(q.1 == i) && !(q.1 + 1 == i && q.2.category == 2)) = L')
    (K : zX C nL k n (pc + 3) L' rest P) : zX C nL k n pc L rest P := fun H locs ls hP hS hl => lv_iinc hF.1 hF.2.1 hdg hl hq hv hn hl' (fun ls' hl2 => K H locs ls' hP hS hl2)
theorem zx_iadd (hF : zF0 C cc nL Ts own) {x y : Int32} (hdg : decode cc pc = .ok (.iadd, 1))
    (K : zX C nL k n (pc + 1) L (.int (x + y) :: rest) P) : zX C nL k n pc L (.int y :: .int x :: rest) P := fun H locs ls hP hS hl => lv_iadd hF.1 hF.2.1 hdg (K H locs ls hP hS hl)
theorem zx_isub (hF : zF0 C cc nL Ts own) {x y : Int32} (hdg : decode cc pc = .ok (.isub, 1))
    (K : zX C nL k n (pc + 1) L (.int (x - y) :: rest) P) : zX C nL k n pc L (.int y :: .int x :: rest) P := fun H locs ls hP hS hl => lv_isub hF.1 hF.2.1 hdg (K H locs ls hP hS hl)
theorem zx_imul (hF : zF0 C cc nL Ts own) {x y : Int32} (hdg : decode cc pc = .ok (.imul, 1))
    (K : zX C nL k n (pc + 1) L (.int (x * y) :: rest) P) : zX C nL k n pc L (.int y :: .int x :: rest) P := fun H locs ls hP hS hl => lv_imul hF.1 hF.2.1 hdg (K H locs ls hP hS hl)
theorem zx_iand (hF : zF0 C cc nL Ts own) {x y : Int32} (hdg : decode cc pc = .ok (.iand, 1))
    (K : zX C nL k n (pc + 1) L (.int (x &&& y) :: rest) P) : zX C nL k n pc L (.int y :: .int x :: rest) P := fun H locs ls hP hS hl => lv_iand hF.1 hF.2.1 hdg (K H locs ls hP hS hl)
theorem zx_ior (hF : zF0 C cc nL Ts own) {x y : Int32} (hdg : decode cc pc = .ok (.ior, 1))
    (K : zX C nL k n (pc + 1) L (.int (x ||| y) :: rest) P) : zX C nL k n pc L (.int y :: .int x :: rest) P := fun H locs ls hP hS hl => lv_ior hF.1 hF.2.1 hdg (K H locs ls hP hS hl)
theorem zx_ixor (hF : zF0 C cc nL Ts own) {x y : Int32} (hdg : decode cc pc = .ok (.ixor, 1))
    (K : zX C nL k n (pc + 1) L (.int (x ^^^ y) :: rest) P) : zX C nL k n pc L (.int y :: .int x :: rest) P := fun H locs ls hP hS hl => lv_ixor hF.1 hF.2.1 hdg (K H locs ls hP hS hl)
theorem zx_ladd (hF : zF0 C cc nL Ts own) {x y : Int64} (hdg : decode cc pc = .ok (.ladd, 1))
    (K : zX C nL k n (pc + 1) L (.long (x + y) :: rest) P) : zX C nL k n pc L (.long y :: .long x :: rest) P := fun H locs ls hP hS hl => lv_ladd hF.1 hF.2.1 hdg (K H locs ls hP hS hl)
theorem zx_lsub (hF : zF0 C cc nL Ts own) {x y : Int64} (hdg : decode cc pc = .ok (.lsub, 1))
    (K : zX C nL k n (pc + 1) L (.long (x - y) :: rest) P) : zX C nL k n pc L (.long y :: .long x :: rest) P := fun H locs ls hP hS hl => lv_lsub hF.1 hF.2.1 hdg (K H locs ls hP hS hl)
theorem zx_lmul (hF : zF0 C cc nL Ts own) {x y : Int64} (hdg : decode cc pc = .ok (.lmul, 1))
    (K : zX C nL k n (pc + 1) L (.long (x * y) :: rest) P) : zX C nL k n pc L (.long y :: .long x :: rest) P := fun H locs ls hP hS hl => lv_lmul hF.1 hF.2.1 hdg (K H locs ls hP hS hl)
theorem zx_land (hF : zF0 C cc nL Ts own) {x y : Int64} (hdg : decode cc pc = .ok (.land, 1))
    (K : zX C nL k n (pc + 1) L (.long (x &&& y) :: rest) P) : zX C nL k n pc L (.long y :: .long x :: rest) P := fun H locs ls hP hS hl => lv_land hF.1 hF.2.1 hdg (K H locs ls hP hS hl)
theorem zx_lor (hF : zF0 C cc nL Ts own) {x y : Int64} (hdg : decode cc pc = .ok (.lor, 1))
    (K : zX C nL k n (pc + 1) L (.long (x ||| y) :: rest) P) : zX C nL k n pc L (.long y :: .long x :: rest) P := fun H locs ls hP hS hl => lv_lor hF.1 hF.2.1 hdg (K H locs ls hP hS hl)
theorem zx_lxor (hF : zF0 C cc nL Ts own) {x y : Int64} (hdg : decode cc pc = .ok (.lxor, 1))
    (K : zX C nL k n (pc + 1) L (.long (x ^^^ y) :: rest) P) : zX C nL k n pc L (.long y :: .long x :: rest) P := fun H locs ls hP hS hl => lv_lxor hF.1 hF.2.1 hdg (K H locs ls hP hS hl)
theorem zx_ldiv (hF : zF0 C cc nL Ts own) {x y : Int64} (hdg : decode cc pc = .ok (.ldiv, 1)) (hne : ¬ y = 0)
    (K : zX C nL k n (pc + 1) L (.long (x / y) :: rest) P) : zX C nL k n pc L (.long y :: .long x :: rest) P := fun H locs ls hP hS hl => lv_ldiv hF.1 hF.2.1 hdg hne (K H locs ls hP hS hl)
theorem zx_lrem (hF : zF0 C cc nL Ts own) {x y : Int64} (hdg : decode cc pc = .ok (.lrem, 1)) (hne : ¬ y = 0)
    (K : zX C nL k n (pc + 1) L (.long (x - x / y * y) :: rest) P) : zX C nL k n pc L (.long y :: .long x :: rest) P := fun H locs ls hP hS hl => lv_lrem hF.1 hF.2.1 hdg hne (K H locs ls hP hS hl)
theorem zx_ishl (hF : zF0 C cc nL Ts own) {x y : Int32} (hdg : decode cc pc = .ok (.ishl, 1))
    (K : zX C nL k n (pc + 1) L (.int (x <<< (y &&& 31)) :: rest) P) : zX C nL k n pc L (.int y :: .int x :: rest) P := fun H locs ls hP hS hl => lv_ishl hF.1 hF.2.1 hdg (K H locs ls hP hS hl)
theorem zx_ishr (hF : zF0 C cc nL Ts own) {x y : Int32} (hdg : decode cc pc = .ok (.ishr, 1))
    (K : zX C nL k n (pc + 1) L (.int (x >>> (y &&& 31)) :: rest) P) : zX C nL k n pc L (.int y :: .int x :: rest) P := fun H locs ls hP hS hl => lv_ishr hF.1 hF.2.1 hdg (K H locs ls hP hS hl)
theorem zx_iushr (hF : zF0 C cc nL Ts own) {x y v : Int32} (hdg : decode cc pc = .ok (.iushr, 1)) (hv : (x.toUInt32 >>> (y.toUInt32 &&& Int32.toUInt32 31)).toInt32 = v)
    (K : zX C nL k n (pc + 1) L (.int v :: rest) P) : zX C nL k n pc L (.int y :: .int x :: rest) P := fun H locs ls hP hS hl => lv_iushr hF.1 hF.2.1 hdg hv (K H locs ls hP hS hl)
theorem zx_lshl (hF : zF0 C cc nL Ts own) {x v : Int64} {y : Int32} (hdg : decode cc pc = .ok (.lshl, 1)) (hv : x <<< (y.toInt64 &&& 63) = v)
    (K : zX C nL k n (pc + 1) L (.long v :: rest) P) : zX C nL k n pc L (.int y :: .long x :: rest) P := fun H locs ls hP hS hl => lv_lshl hF.1 hF.2.1 hdg hv (K H locs ls hP hS hl)
theorem zx_ineg (hF : zF0 C cc nL Ts own) {x : Int32} (hdg : decode cc pc = .ok (.ineg, 1))
    (K : zX C nL k n (pc + 1) L (.int (-x) :: rest) P) : zX C nL k n pc L (.int x :: rest) P := fun H locs ls hP hS hl => lv_ineg hF.1 hF.2.1 hdg (K H locs ls hP hS hl)
theorem zx_i2l (hF : zF0 C cc nL Ts own) {x : Int32} {v : Int64} (hdg : decode cc pc = .ok (.i2l, 1)) (hv : x.toInt64 = v)
    (K : zX C nL k n (pc + 1) L (.long v :: rest) P) : zX C nL k n pc L (.int x :: rest) P := fun H locs ls hP hS hl => lv_i2l hF.1 hF.2.1 hdg hv (K H locs ls hP hS hl)
theorem zx_l2i (hF : zF0 C cc nL Ts own) {x : Int64} {v : Int32} (hdg : decode cc pc = .ok (.l2i, 1)) (hv : x.toInt32 = v)
    (K : zX C nL k n (pc + 1) L (.int v :: rest) P) : zX C nL k n pc L (.long x :: rest) P := fun H locs ls hP hS hl => lv_l2i hF.1 hF.2.1 hdg hv (K H locs ls hP hS hl)
theorem zx_i2b (hF : zF0 C cc nL Ts own) {x v : Int32} (hdg : decode cc pc = .ok (.i2b, 1)) (hv : x.toInt8.toInt32 = v)
    (K : zX C nL k n (pc + 1) L (.int v :: rest) P) : zX C nL k n pc L (.int x :: rest) P := fun H locs ls hP hS hl => lv_i2b hF.1 hF.2.1 hdg hv (K H locs ls hP hS hl)
theorem zx_dup (hF : zF0 C cc nL Ts own) {va : Value} (hdg : decode cc pc = .ok (.dup, 1)) (hva : va.category = 1)
    (K : zX C nL k n (pc + 1) L (va :: va :: rest) P) : zX C nL k n pc L (va :: rest) P := fun H locs ls hP hS hl => lv_dup hF.1 hF.2.1 hdg hva (K H locs ls hP hS hl)
theorem zx_pop (hF : zF0 C cc nL Ts own) {va : Value} (hdg : decode cc pc = .ok (.pop, 1)) (hva : va.category = 1)
    (K : zX C nL k n (pc + 1) L (rest) P) : zX C nL k n pc L (va :: rest) P := fun H locs ls hP hS hl => lv_pop hF.1 hF.2.1 hdg hva (K H locs ls hP hS hl)
theorem zx_dup_x1 (hF : zF0 C cc nL Ts own) {va vb : Value} (hdg : decode cc pc = .ok (.dup_x1, 1)) (hva : va.category = 1) (hvb : vb.category = 1)
    (K : zX C nL k n (pc + 1) L (va :: vb :: va :: rest) P) : zX C nL k n pc L (va :: vb :: rest) P := fun H locs ls hP hS hl => lv_dup_x1 hF.1 hF.2.1 hdg hva hvb (K H locs ls hP hS hl)
theorem zx_dup2_11 (hF : zF0 C cc nL Ts own) {va vb : Value} (hdg : decode cc pc = .ok (.dup2, 1)) (hva : va.category = 1) (hvb : vb.category = 1)
    (K : zX C nL k n (pc + 1) L (va :: vb :: va :: vb :: rest) P) : zX C nL k n pc L (va :: vb :: rest) P := fun H locs ls hP hS hl => lv_dup2_11 hF.1 hF.2.1 hdg hva hvb (K H locs ls hP hS hl)
theorem zx_dup2_2 (hF : zF0 C cc nL Ts own) {va : Value} (hdg : decode cc pc = .ok (.dup2, 1)) (hva : va.category = 2)
    (K : zX C nL k n (pc + 1) L (va :: va :: rest) P) : zX C nL k n pc L (va :: rest) P := fun H locs ls hP hS hl => lv_dup2_2 hF.1 hF.2.1 hdg hva (K H locs ls hP hS hl)
theorem zx_null (hF : zF0 C cc nL Ts own) (hdg : decode cc pc = .ok (.aconst_null, 1))
    (K : zX C nL k n (pc + 1) L (.null :: rest) P) : zX C nL k n pc L (rest) P := fun H locs ls hP hS hl => lv_null hF.1 hF.2.1 hdg (K H locs ls hP hS hl)
theorem zx_if_eq (hF : zF0 C cc nL Ts own) {x : Int32} {off : Int} {tgt : Nat} (hdg : decode cc pc = .ok (.ifCond .eq off, 3)) (ht : (pc : Int) + off = (tgt : Int))
    (kt : x = 0 → zX C nL k n tgt L rest P) (kf : ¬ x = 0 → zX C nL k n (pc + 3) L rest P) : zX C nL k n pc L (.int x :: rest) P := fun H locs ls hP hS hl => lv_if_eq hF.1 hF.2.1 hdg ht (fun q => kt q H locs ls hP hS hl) (fun q => kf q H locs ls hP hS hl)
theorem zx_if_ne (hF : zF0 C cc nL Ts own) {x : Int32} {off : Int} {tgt : Nat} (hdg : decode cc pc = .ok (.ifCond .ne off, 3)) (ht : (pc : Int) + off = (tgt : Int))
    (kt : ¬ x = 0 → zX C nL k n tgt L rest P) (kf : x = 0 → zX C nL k n (pc + 3) L rest P) : zX C nL k n pc L (.int x :: rest) P := fun H locs ls hP hS hl => lv_if_ne hF.1 hF.2.1 hdg ht (fun q => kt q H locs ls hP hS hl) (fun q => kf q H locs ls hP hS hl)
theorem zx_if_lt (hF : zF0 C cc nL Ts own) {x : Int32} {off : Int} {tgt : Nat} (hdg : decode cc pc = .ok (.ifCond .lt off, 3)) (ht : (pc : Int) + off = (tgt : Int))
    (kt : x < 0 → zX C nL k n tgt L rest P) (kf : ¬ x < 0 → zX C nL k n (pc + 3) L rest P) : zX C nL k n pc L (.int x :: rest) P := fun H locs ls hP hS hl => lv_if_lt hF.1 hF.2.1 hdg ht (fun q => kt q H locs ls hP hS hl) (fun q => kf q H locs ls hP hS hl)
theorem zx_if_ge (hF : zF0 C cc nL Ts own) {x : Int32} {off : Int} {tgt : Nat} (hdg : decode cc pc = .ok (.ifCond .ge off, 3)) (ht : (pc : Int) + off = (tgt : Int))
    (kt : 0 ≤ x → zX C nL k n tgt L rest P) (kf : ¬ 0 ≤ x → zX C nL k n (pc + 3) L rest P) : zX C nL k n pc L (.int x :: rest) P := fun H locs ls hP hS hl => lv_if_ge hF.1 hF.2.1 hdg ht (fun q => kt q H locs ls hP hS hl) (fun q => kf q H locs ls hP hS hl)
theorem zx_if_gt (hF : zF0 C cc nL Ts own) {x : Int32} {off : Int} {tgt : Nat} (hdg : decode cc pc = .ok (.ifCond .gt off, 3)) (ht : (pc : Int) + off = (tgt : Int))
    (kt : 0 < x → zX C nL k n tgt L rest P) (kf : ¬ 0 < x → zX C nL k n (pc + 3) L rest P) : zX C nL k n pc L (.int x :: rest) P := fun H locs ls hP hS hl => lv_if_gt hF.1 hF.2.1 hdg ht (fun q => kt q H locs ls hP hS hl) (fun q => kf q H locs ls hP hS hl)
theorem zx_if_le (hF : zF0 C cc nL Ts own) {x : Int32} {off : Int} {tgt : Nat} (hdg : decode cc pc = .ok (.ifCond .le off, 3)) (ht : (pc : Int) + off = (tgt : Int))
    (kt : x ≤ 0 → zX C nL k n tgt L rest P) (kf : ¬ x ≤ 0 → zX C nL k n (pc + 3) L rest P) : zX C nL k n pc L (.int x :: rest) P := fun H locs ls hP hS hl => lv_if_le hF.1 hF.2.1 hdg ht (fun q => kt q H locs ls hP hS hl) (fun q => kf q H locs ls hP hS hl)
theorem zx_icmp_eq (hF : zF0 C cc nL Ts own) {x y : Int32} {off : Int} {tgt : Nat} (hdg : decode cc pc = .ok (.if_icmp .eq off, 3)) (ht : (pc : Int) + off = (tgt : Int))
    (kt : x = y → zX C nL k n tgt L rest P) (kf : ¬ x = y → zX C nL k n (pc + 3) L rest P) : zX C nL k n pc L (.int y :: .int x :: rest) P := fun H locs ls hP hS hl => lv_icmp_eq hF.1 hF.2.1 hdg ht (fun q => kt q H locs ls hP hS hl) (fun q => kf q H locs ls hP hS hl)
theorem zx_icmp_ne (hF : zF0 C cc nL Ts own) {x y : Int32} {off : Int} {tgt : Nat} (hdg : decode cc pc = .ok (.if_icmp .ne off, 3)) (ht : (pc : Int) + off = (tgt : Int))
    (kt : ¬ x = y → zX C nL k n tgt L rest P) (kf : x = y → zX C nL k n (pc + 3) L rest P) : zX C nL k n pc L (.int y :: .int x :: rest) P := fun H locs ls hP hS hl => lv_icmp_ne hF.1 hF.2.1 hdg ht (fun q => kt q H locs ls hP hS hl) (fun q => kf q H locs ls hP hS hl)
theorem zx_icmp_lt (hF : zF0 C cc nL Ts own) {x y : Int32} {off : Int} {tgt : Nat} (hdg : decode cc pc = .ok (.if_icmp .lt off, 3)) (ht : (pc : Int) + off = (tgt : Int))
    (kt : x < y → zX C nL k n tgt L rest P) (kf : ¬ x < y → zX C nL k n (pc + 3) L rest P) : zX C nL k n pc L (.int y :: .int x :: rest) P := fun H locs ls hP hS hl => lv_icmp_lt hF.1 hF.2.1 hdg ht (fun q => kt q H locs ls hP hS hl) (fun q => kf q H locs ls hP hS hl)
theorem zx_icmp_ge (hF : zF0 C cc nL Ts own) {x y : Int32} {off : Int} {tgt : Nat} (hdg : decode cc pc = .ok (.if_icmp .ge off, 3)) (ht : (pc : Int) + off = (tgt : Int))
    (kt : y ≤ x → zX C nL k n tgt L rest P) (kf : ¬ y ≤ x → zX C nL k n (pc + 3) L rest P) : zX C nL k n pc L (.int y :: .int x :: rest) P := fun H locs ls hP hS hl => lv_icmp_ge hF.1 hF.2.1 hdg ht (fun q => kt q H locs ls hP hS hl) (fun q => kf q H locs ls hP hS hl)
theorem zx_icmp_gt (hF : zF0 C cc nL Ts own) {x y : Int32} {off : Int} {tgt : Nat} (hdg : decode cc pc = .ok (.if_icmp .gt off, 3)) (ht : (pc : Int) + off = (tgt : Int))
    (kt : y < x → zX C nL k n tgt L rest P) (kf : ¬ y < x → zX C nL k n (pc + 3) L rest P) : zX C nL k n pc L (.int y :: .int x :: rest) P := fun H locs ls hP hS hl => lv_icmp_gt hF.1 hF.2.1 hdg ht (fun q => kt q H locs ls hP hS hl) (fun q => kf q H locs ls hP hS hl)
theorem zx_icmp_le (hF : zF0 C cc nL Ts own) {x y : Int32} {off : Int} {tgt : Nat} (hdg : decode cc pc = .ok (.if_icmp .le off, 3)) (ht : (pc : Int) + off = (tgt : Int))
    (kt : x ≤ y → zX C nL k n tgt L rest P) (kf : ¬ x ≤ y → zX C nL k n (pc + 3) L rest P) : zX C nL k n pc L (.int y :: .int x :: rest) P := fun H locs ls hP hS hl => lv_icmp_le hF.1 hF.2.1 hdg ht (fun q => kt q H locs ls hP hS hl) (fun q => kf q H locs ls hP hS hl)
theorem zx_lcmp_eq (hF : zF0 C cc nL Ts own) {x y : Int64} {off : Int} {tgt : Nat} (hd1 : decode cc pc = .ok (.lcmp, 1)) (hdg : decode cc (pc + 1) = .ok (.ifCond .eq off, 3)) (ht : ((pc + 1 : Nat) : Int) + off = (tgt : Int))
    (kt : x = y → zX C nL k n tgt L rest P) (kf : ¬ x = y → zX C nL k n (pc + 4) L rest P) : zX C nL k n pc L (.long y :: .long x :: rest) P := fun H locs ls hP hS hl => W.lcmp hF.1 hF.2.1 hd1 (lv_if_eq hF.1 hF.2.1 hdg ht (fun q => kt ((lg_cmp_eq x y).mp q) H locs ls hP hS hl) (fun q => kf (fun z => q ((lg_cmp_eq x y).mpr z)) H locs ls hP hS hl))
theorem zx_lcmp_ne (hF : zF0 C cc nL Ts own) {x y : Int64} {off : Int} {tgt : Nat} (hd1 : decode cc pc = .ok (.lcmp, 1)) (hdg : decode cc (pc + 1) = .ok (.ifCond .ne off, 3)) (ht : ((pc + 1 : Nat) : Int) + off = (tgt : Int))
    (kt : ¬ x = y → zX C nL k n tgt L rest P) (kf : x = y → zX C nL k n (pc + 4) L rest P) : zX C nL k n pc L (.long y :: .long x :: rest) P := fun H locs ls hP hS hl => W.lcmp hF.1 hF.2.1 hd1 (lv_if_ne hF.1 hF.2.1 hdg ht (fun q => kt (fun z => q ((lg_cmp_eq x y).mpr z)) H locs ls hP hS hl) (fun q => kf ((lg_cmp_eq x y).mp q) H locs ls hP hS hl))
theorem zx_lcmp_lt (hF : zF0 C cc nL Ts own) {x y : Int64} {off : Int} {tgt : Nat} (hd1 : decode cc pc = .ok (.lcmp, 1)) (hdg : decode cc (pc + 1) = .ok (.ifCond .lt off, 3)) (ht : ((pc + 1 : Nat) : Int) + off = (tgt : Int))
    (kt : x < y → zX C nL k n tgt L rest P) (kf : ¬ x < y → zX C nL k n (pc + 4) L rest P) : zX C nL k n pc L (.long y :: .long x :: rest) P := fun H locs ls hP hS hl => W.lcmp hF.1 hF.2.1 hd1 (lv_if_lt hF.1 hF.2.1 hdg ht (fun q => kt ((lg_cmp_lt x y).mp q) H locs ls hP hS hl) (fun q => kf (fun z => q ((lg_cmp_lt x y).mpr z)) H locs ls hP hS hl))
theorem zx_lcmp_ge (hF : zF0 C cc nL Ts own) {x y : Int64} {off : Int} {tgt : Nat} (hd1 : decode cc pc = .ok (.lcmp, 1)) (hdg : decode cc (pc + 1) = .ok (.ifCond .ge off, 3)) (ht : ((pc + 1 : Nat) : Int) + off = (tgt : Int))
    (kt : y ≤ x → zX C nL k n tgt L rest P) (kf : ¬ y ≤ x → zX C nL k n (pc + 4) L rest P) : zX C nL k n pc L (.long y :: .long x :: rest) P := fun H locs ls hP hS hl => W.lcmp hF.1 hF.2.1 hd1 (lv_if_ge hF.1 hF.2.1 hdg ht (fun q => kt ((lg_cmp_ge x y).mp q) H locs ls hP hS hl) (fun q => kf (fun z => q ((lg_cmp_ge x y).mpr z)) H locs ls hP hS hl))
theorem zx_lcmp_gt (hF : zF0 C cc nL Ts own) {x y : Int64} {off : Int} {tgt : Nat} (hd1 : decode cc pc = .ok (.lcmp, 1)) (hdg : decode cc (pc + 1) = .ok (.ifCond .gt off, 3)) (ht : ((pc + 1 : Nat) : Int) + off = (tgt : Int))
    (kt : y < x → zX C nL k n tgt L rest P) (kf : ¬ y < x → zX C nL k n (pc + 4) L rest P) : zX C nL k n pc L (.long y :: .long x :: rest) P := fun H locs ls hP hS hl => W.lcmp hF.1 hF.2.1 hd1 (lv_if_gt hF.1 hF.2.1 hdg ht (fun q => kt ((lg_cmp_gt x y).mp q) H locs ls hP hS hl) (fun q => kf (fun z => q ((lg_cmp_gt x y).mpr z)) H locs ls hP hS hl))
theorem zx_lcmp_le (hF : zF0 C cc nL Ts own) {x y : Int64} {off : Int} {tgt : Nat} (hd1 : decode cc pc = .ok (.lcmp, 1)) (hdg : decode cc (pc + 1) = .ok (.ifCond .le off, 3)) (ht : ((pc + 1 : Nat) : Int) + off = (tgt : Int))
    (kt : x ≤ y → zX C nL k n tgt L rest P) (kf : ¬ x ≤ y → zX C nL k n (pc + 4) L rest P) : zX C nL k n pc L (.long y :: .long x :: rest) P := fun H locs ls hP hS hl => W.lcmp hF.1 hF.2.1 hd1 (lv_if_le hF.1 hF.2.1 hdg ht (fun q => kt ((lg_cmp_le x y).mp q) H locs ls hP hS hl) (fun q => kf (fun z => q ((lg_cmp_le x y).mpr z)) H locs ls hP hS hl))
theorem zx_acmp_eq (hF : zF0 C cc nL Ts own) {a b : Nat} {off : Int} {tgt : Nat} (hdg : decode cc pc = .ok (.if_acmp .eq off, 3)) (ht : (pc : Int) + off = (tgt : Int))
    (kt : a = b → zX C nL k n tgt L rest P) (kf : ¬ a = b → zX C nL k n (pc + 3) L rest P) : zX C nL k n pc L (.ref b :: .ref a :: rest) P := fun H locs ls hP hS hl => lv_acmp_eq (rx := some a) (ry := some b) hF.1 hF.2.1 hdg ht (fun q => kt (by simpa using q) H locs ls hP hS hl) (fun q => kf (by simpa using q) H locs ls hP hS hl)
theorem zx_acmp_ne (hF : zF0 C cc nL Ts own) {a b : Nat} {off : Int} {tgt : Nat} (hdg : decode cc pc = .ok (.if_acmp .ne off, 3)) (ht : (pc : Int) + off = (tgt : Int))
    (kt : ¬ a = b → zX C nL k n tgt L rest P) (kf : a = b → zX C nL k n (pc + 3) L rest P) : zX C nL k n pc L (.ref b :: .ref a :: rest) P := fun H locs ls hP hS hl => lv_acmp_ne (rx := some a) (ry := some b) hF.1 hF.2.1 hdg ht (fun q => kt (by simpa using q) H locs ls hP hS hl) (fun q => kf (by simpa using q) H locs ls hP hS hl)
theorem zx_ifnull (hF : zF0 C cc nL Ts own) {x : Nat} {off : Int} (hdg : decode cc pc = .ok (.ifnull off, 3))
    (K : zX C nL k n (pc + 3) L (rest) P) : zX C nL k n pc L (.ref x :: rest) P := fun H locs ls hP hS hl => lv_ifnull hF.1 hF.2.1 hdg (K H locs ls hP hS hl)
theorem zx_ifnonnullN (hF : zF0 C cc nL Ts own) {off : Int} (hdg : decode cc pc = .ok (.ifnonnull off, 3))
    (K : zX C nL k n (pc + 3) L (rest) P) : zX C nL k n pc L (.null :: rest) P := fun H locs ls hP hS hl => lv_ifnonnullN hF.1 hF.2.1 hdg (K H locs ls hP hS hl)
theorem zx_ifnonnull (hF : zF0 C cc nL Ts own) {x : Nat} {off : Int} {tgt : Nat} (hdg : decode cc pc = .ok (.ifnonnull off, 3)) (ht : (pc : Int) + off = (tgt : Int))
    (K : zX C nL k n tgt L rest P) : zX C nL k n pc L (.ref x :: rest) P := fun H locs ls hP hS hl => lv_ifnonnull hF.1 hF.2.1 hdg ht (K H locs ls hP hS hl)
theorem zx_ifnullN (hF : zF0 C cc nL Ts own) {off : Int} {tgt : Nat} (hdg : decode cc pc = .ok (.ifnull off, 3)) (ht : (pc : Int) + off = (tgt : Int))
    (K : zX C nL k n tgt L rest P) : zX C nL k n pc L (.null :: rest) P := fun H locs ls hP hS hl => lv_ifnullN hF.1 hF.2.1 hdg ht (K H locs ls hP hS hl)
theorem zx_goto (hF : zF0 C cc nL Ts own) {off : Int} {tgt : Nat} (hdg : decode cc pc = .ok (.goto off, 3)) (ht : (pc : Int) + off = (tgt : Int)) (K : zX C nL k n tgt L rest P) : zX C nL k n pc L rest P := fun H locs ls hP hS hl => lv_goto hF.1 hF.2.1 hdg ht (K H locs ls hP hS hl)
theorem zx_rf {r : Option Nat} (kn : r = none → zX C nL k n pc L (.null :: rest) P) (ks : ∀ a, r = some a → zX C nL k n pc L (.ref a :: rest) P) : zX C nL k n pc L (va_rf r :: rest) P := by
  cases r with
  | none => exact kn rfl
  | some a => exact ks a rfl
theorem zx_sub {L' : List (Nat × Value)} {st : List Value} (ks : List Nat) (hq : lv_pick L ks = L') (K : zX C nL k n pc L' st P) : zX C nL k n pc L st P := fun H locs ls hP hS hl => K H locs ls hP hS (lv_sub hl ks hq)
theorem zx_ldc (hF : zF0 C cc nL Ts own) {idx : Nat} {v : Int32} (hw : Cond.constant own idx v ∈ Ts) (hdg : decode cc pc = .ok (.ldc idx, 2)) (K : zX C nL k n (pc + 2) L (.int v :: rest) P) : zX C nL k n pc L rest P := fun H locs ls hP hS hl => lv_ldc hF.1 hF.2.1 hF.2.2.2.1 (hF.2.2.2.2 _ hw) hdg (K H locs ls hP hS hl)
theorem zx_ldcw (hF : zF0 C cc nL Ts own) {idx : Nat} {v : Int32} (hw : Cond.constant own idx v ∈ Ts) (hdg : decode cc pc = .ok (.ldc_w idx, 3)) (K : zX C nL k n (pc + 3) L (.int v :: rest) P) : zX C nL k n pc L rest P := fun H locs ls hP hS hl => lv_ldcw hF.1 hF.2.1 hF.2.2.2.1 (hF.2.2.2.2 _ hw) hdg (K H locs ls hP hS hl)
theorem zx_ldc2 (hF : zF0 C cc nL Ts own) {idx : Nat} {v : Int64} (hw : Cond.constantLong own idx v ∈ Ts) (hdg : decode cc pc = .ok (.ldc2_w idx, 3)) (K : zX C nL k n (pc + 3) L (.long v :: rest) P) : zX C nL k n pc L rest P := fun H locs ls hP hS hl => lv_ldc2 hF.1 hF.2.1 hF.2.2.2.1 (hF.2.2.2.2 _ hw) hdg (K H locs ls hP hS hl)
/-- a text of the Reader's: the i-th -/
theorem zx_ldcS (hF : zF C G cc nL Ts RX4) {idx : Nat} (i : Nat) (hi : i < 13) (hx : zixs.getD i 0 = idx) (hdg : decode cc pc = .ok (.ldc idx, 2)) (K : zX C nL k n (pc + 2) L (.ref (zaK G i) :: rest) P) : zX C nL k n pc L rest P := by
  subst hx
  exact fun H locs ls hP hS hl => va_ldcS hF.1.1 hF.1.2.1 hF.1.2.2.2.1 (hF.2.1.2.2.1 i hi) hdg (K H locs ls hP hS hl)
theorem zx_tabOut (hF : zF0 C cc nL Ts own) {dflt lo hi : Int} {offs : Array Int} {len : Nat} {x : Int32} {tgt : Nat} (hdg : decode cc pc = .ok (.tableswitch dflt lo hi offs, len)) (h : x.toInt < lo ∨ hi < x.toInt) (ht : (pc : Int) + dflt = (tgt : Int)) (K : zX C nL k n tgt L rest P) : zX C nL k n pc L (.int x :: rest) P := fun H locs ls hP hS hl => lv_tableOut hF.1 hF.2.1 hdg h ht (K H locs ls hP hS hl)
theorem zx_tabIn (hF : zF0 C cc nL Ts own) {dflt lo hi : Int} {offs : Array Int} {len : Nat} {x : Int32} {off : Int} {tgt : Nat} (hdg : decode cc pc = .ok (.tableswitch dflt lo hi offs, len)) (h1 : ¬ x.toInt < lo) (h2 : ¬ hi < x.toInt) (ho : offs[(x.toInt - lo).toNat]? = some off) (ht : (pc : Int) + off = (tgt : Int)) (K : zX C nL k n tgt L rest P) : zX C nL k n pc L (.int x :: rest) P := fun H locs ls hP hS hl => lv_tableIn hF.1 hF.2.1 hdg h1 h2 ho ht (K H locs ls hP hS hl)
theorem z_cellO {c o : Nat} (hc : c < 1000) : zcell G c o m = .inr (c % 50, zfs c o m) := if_pos hc
theorem z_cellA {c o : Nat} (hc : ¬ c < 1000) : zcell G c o m = .inl (zcy G (zty c), zal c, zad c o m) := if_neg hc
theorem zx_get (hF : zF C G cc nL Ts own) {c o idx : Nat} {CN : String} {T : u_T} {N : Nat} (hk : zK G o = some (c, o)) (hc : c < 1000) (hcl : vwCl[c % 50]? = some (CN, T, N)) (hin : ∀ w ∈ u_ws CN T N, w ∈ Ts) (kk : Nat) (hkN : kk < N) (hlink : Cond.fieldLink own idx CN (T kk).2.1 (T kk).2.2.1 ∈ Ts) (hT : (T kk).1 = CN) {v : Value} (hv : (zfs c o m)[kk]? = some v) (hdg : decode cc pc = .ok (.getfield idx, 3))
    (K : zX C nL k n (pc + 3) L (v :: rest) (zPic G m)) : zX C nL k n pc L (.ref o :: rest) (zPic G m) := fun H locs ls hP hS hl =>
  va_get (D := zD G) (cl := vwCl) (tys := ztys G) (ws := [(o, .inr (c % 50, zfs c o m))]) hF.1.1 hF.1.2.1 hF.1.2.2.2.2 hin hF.1.2.2.2.1 hF.2.1.1 (zsing (by have h := hP.2.1 o _ hk; rw [z_cellO hc] at h; exact h)) 0 rfl hcl kk hkN (hF.1.2.2.2.2 _ hlink) (fun x hx => by rw [hT] at hx; exact hx) hv hdg (K H locs ls hP hS hl)
theorem zx_put (hF : zF C G cc nL Ts own) {c o idx : Nat} {CN : String} {T : u_T} {N : Nat} {m' : zM} (hk : zK G o = some (c, o)) (hc : c < 1000) (hcl : vwCl[c % 50]? = some (CN, T, N)) (hin : ∀ w ∈ u_ws CN T N, w ∈ Ts) {ty0 : Nat → FieldType} (hty : ∀ k, k < N → parseFieldDescriptor (T k).2.2.1 = some (ty0 k)) (hnm : ∀ a, a < N → ∀ b, b < N → a ≠ b → (T a).2.1 ≠ (T b).2.1) (kk : Nat) (hkN : kk < N) (hlink : Cond.fieldLink own idx CN (T kk).2.1 (T kk).2.2.1 ∈ Ts) (hT : (T kk).1 = CN) (hfin : (T kk).2.2.2 = false) {ty : FieldType} {v : Value} (hd : parseFieldDescriptor (T kk).2.2.1 = some ty) (hnw : narrow ty v = v) (hfit : fits ty v = true)
    (hfs : (zfs c o m).set kk v = zfs c o m') (hlen : kk < (zfs c o m).length) (hag : ∀ c' o', (zkey c ≠ zkey c' ∨ o' ≠ o) → zag c' o' m' m) (hw : zWT G m → zWT G m') (hdg : decode cc pc = .ok (.putfield idx, 3))
    (K : zX C nL k n (pc + 3) L rest (zPic G m')) : zX C nL k n pc L (v :: .ref o :: rest) (zPic G m) := by
  intro H locs ls hP hS hl
  have hcell : va_at (zD G) vwCl (o, .inr (c % 50, zfs c o m)) H := by have h := hP.2.1 o _ hk; rw [z_cellO hc] at h; exact h
  have hap := va_apart (own := own) hF.1.2.2.2.2 hin ty0 hty hnm hF.2.1.1 hcl
  obtain ⟨r, h1, cell, q1, q2, q3, q4⟩ := hcell
  have hr : r = (CN, T, N) := Option.some.inj (h1.symm.trans hcl)
  subst hr
  obtain ⟨hSl, hfc, kC, hkC, hkind⟩ := hF.2.1.1.1 (c % 50) _ hcl
  obtain ⟨cf, kf, fi, f, hi, hsl⟩ := hSl kk hkN
  have hlay := hF.1.2.2.2.2 _ (hin _ (u_in_lay hkN))
  unfold u_lay at hlay
  rw [if_neg (by rw [hfin]; decide)] at hlay
  have hst := (u_facts hfc hkC (u_lays hF.1.2.2.2.2 hin hkN) hi).1
  have h6 := u_store hfc hkC hkind hlay hi hd hnw hfit
  refine W.putK hF.1.1 hF.1.2.1 (f := f) ⟨hF.1.2.2.2.1, hF.1.2.2.2.2 _ hlink, ⟨_, _, _, by rw [hT] at hi; exact hi⟩, hst⟩ (by rw [q2]; exact h6) q1 q3 (by rw [hsl]; exact k2_hasslot (q4 kk hkN)) rfl rfl hdg fun H' e1 e2 e3 => ?_
  rw [hsl] at e1 ⊢
  refine K H' _ ls (zPic_upd hF.2.2.1 hP hk ?_ e2 e3 hag (hw hP.2.2)) (zS_kept hS e2 e3 (hF.2.2.2.1 _ _ hk)) hl
  rw [z_cellO hc, ← hfs]
  exact ⟨_, hcl, t_OB.to (V := updV (vp_V (zfs c o m)) kk v) ⟨_, e1, q2, q3, t_set q4 hap hkN v⟩ (fun j _ => vp_updV_set hlen v j)⟩
theorem zx_putF (hF : zF C G cc nL Ts own) {c o idx : Nat} {CN : String} {T : u_T} {N : Nat} {m' : zM} (hk : zK G o = some (c, o)) (hc : c < 1000) (hcl : vwCl[c % 50]? = some (CN, T, N)) (hin : ∀ w ∈ u_ws CN T N, w ∈ Ts) {ty0 : Nat → FieldType} (hty : ∀ k, k < N → parseFieldDescriptor (T k).2.2.1 = some (ty0 k)) (hnm : ∀ a, a < N → ∀ b, b < N → a ≠ b → (T a).2.1 ≠ (T b).2.1) (kk : Nat) (hkN : kk < N) (hlink : Cond.fieldLink own idx CN (T kk).2.1 (T kk).2.2.1 ∈ Ts) (hT : (T kk).1 = CN) (hfin : (T kk).2.2.2 = true) (hin2 : (zme C).name = "<init>") (hdecl : CN = own) {ty : FieldType} {v : Value} (hd : parseFieldDescriptor (T kk).2.2.1 = some ty) (hnw : narrow ty v = v) (hfit : fits ty v = true)
    (hfs : (zfs c o m).set kk v = zfs c o m') (hlen : kk < (zfs c o m).length) (hag : ∀ c' o', (zkey c ≠ zkey c' ∨ o' ≠ o) → zag c' o' m' m) (hw : zWT G m → zWT G m') (hdg : decode cc pc = .ok (.putfield idx, 3))
    (K : zX C nL k n (pc + 3) L rest (zPic G m')) : zX C nL k n pc L (v :: .ref o :: rest) (zPic G m) := by
  intro H locs ls hP hS hl
  have hcell : va_at (zD G) vwCl (o, .inr (c % 50, zfs c o m)) H := by have h := hP.2.1 o _ hk; rw [z_cellO hc] at h; exact h
  have hap := va_apart (own := own) hF.1.2.2.2.2 hin ty0 hty hnm hF.2.1.1 hcl
  obtain ⟨r, h1, cell, q1, q2, q3, q4⟩ := hcell
  have hr : r = (CN, T, N) := Option.some.inj (h1.symm.trans hcl)
  subst hr
  obtain ⟨hSl, hfc, kC, hkC, hkind⟩ := hF.2.1.1.1 (c % 50) _ hcl
  obtain ⟨cf, kf, fi, f, hi, hsl⟩ := hSl kk hkN
  have hlay := hF.1.2.2.2.2 _ (hin _ (u_in_lay hkN))
  unfold u_lay at hlay
  rw [if_pos hfin] at hlay
  have hst := (u_facts hfc hkC (u_lays hF.1.2.2.2.2 hin hkN) hi).1
  have hcf : (zmi C).cls = cf := by
    obtain ⟨_, _, c', _, _, _, -, -, hf', -, -, -, hown2, -⟩ := Cond.laysFinal_spec hlay
    have e1 : c' = cf := by have := hi.symm.trans hf'; simp at this; exact this.1.symm
    rw [hT, hdecl] at hown2
    rw [← e1]; exact Option.some.inj (hF.1.2.2.2.1.symm.trans hown2)
  have h6 := u_fits hfc hkC hkind (Or.inr hlay) hi hd hnw hfit
  refine W.putFinK hF.1.1 hF.1.2.1 hF.1.2.2.2.1 (hF.1.2.2.2.2 _ hlink) (by rw [hT] at hi; exact hi) hst hcf hin2 (by rw [q2]; exact h6) q1 q3 (by rw [hsl]; exact k2_hasslot (q4 kk hkN)) rfl rfl hdg fun H' e1 e2 e3 => ?_
  rw [hsl] at e1 ⊢
  refine K H' _ ls (zPic_upd hF.2.2.1 hP hk ?_ e2 e3 hag (hw hP.2.2)) (zS_kept hS e2 e3 (hF.2.2.2.1 _ _ hk)) hl
  rw [z_cellO hc, ← hfs]
  exact ⟨_, hcl, t_OB.to (V := updV (vp_V (zfs c o m)) kk v) ⟨_, e1, q2, q3, t_set q4 hap hkN v⟩ (fun j _ => vp_updV_set hlen v j)⟩
theorem z_adI {c o : Nat} (h : zty c = 0 ∨ zty c = 1 ∨ zty c = 3) : zad c o m = .inl (zI m c o) := by
  unfold zad
  rw [if_neg (by omega), if_pos (by omega)]
theorem z_adJ {c o : Nat} (h : zty c = 2) : zad c o m = .inr (.inl (zJ m c o)) := if_pos h
theorem z_adQ {c o : Nat} (h : zty c = 4 ∨ zty c = 5) (h2 : ¬ c = 1006) : zad c o m = .inr (.inr (.inr (.inr (zQ m c o)))) := by
  unfold zad
  rw [if_neg (by omega), if_neg (by omega), if_neg h2]
theorem z_adC {o : Nat} : zad 1006 o m = .inr (.inr (.inr (.inr (fun i => some (o + 11 + 7 * i))))) := rfl
theorem zx_iald (hF : zF C G cc nL Ts own) {a c o N : Nat} {i : Int32} (hk : zK G a = some (c, o)) (hc : ¬ c < 1000) (hty : zty c = 1) (hN : zal c = N) {j : Nat} (hin : vp_in i N) (hj : i.toNatClampNeg = j) (hdg : decode cc pc = .ok (.iaload, 1))
    (K : zX C nL k n (pc + 1) L (.int (zI m c o j) :: rest) (zPic G m)) : zX C nL k n pc L (.int i :: .ref a :: rest) (zPic G m) := by
  subst hN
  subst hj
  exact fun H locs ls hP hS hl => va_iald (D := zD G) (cl := vwCl) (tys := ztys G) (ws := [(a, .inl (zcy G 1, zal c, .inl (zI m c o)))]) hF.1.1 hF.1.2.1 hF.2.1.1 (zsing (by have h := hP.2.1 a _ hk; rw [z_cellA hc, z_adI (by omega), hty] at h; exact h)) 0 1 rfl rfl hin hdg (K H locs ls hP hS hl)
theorem zx_bald (hF : zF C G cc nL Ts own) {a c o N : Nat} {i : Int32} (hk : zK G a = some (c, o)) (hc : ¬ c < 1000) (hty : zty c = 0) (hN : zal c = N) {j : Nat} (hin : vp_in i N) (hj : i.toNatClampNeg = j) (hdg : decode cc pc = .ok (.baload, 1))
    (K : zX C nL k n (pc + 1) L (.int (zI m c o j) :: rest) (zPic G m)) : zX C nL k n pc L (.int i :: .ref a :: rest) (zPic G m) := by
  subst hN
  subst hj
  exact fun H locs ls hP hS hl => va_bald (D := zD G) (cl := vwCl) (tys := ztys G) (ws := [(a, .inl (zcy G 0, zal c, .inl (zI m c o)))]) hF.1.1 hF.1.2.1 hF.2.1.1 (zsing (by have h := hP.2.1 a _ hk; rw [z_cellA hc, z_adI (by omega), hty] at h; exact h)) 0 0 rfl rfl hin hdg (K H locs ls hP hS hl)
theorem zx_zald (hF : zF C G cc nL Ts own) {a c o N : Nat} {i : Int32} (hk : zK G a = some (c, o)) (hc : ¬ c < 1000) (hty : zty c = 3) (hN : zal c = N) {j : Nat} (hin : vp_in i N) (hj : i.toNatClampNeg = j) (hdg : decode cc pc = .ok (.baload, 1))
    (K : zX C nL k n (pc + 1) L (.int (zI m c o j) :: rest) (zPic G m)) : zX C nL k n pc L (.int i :: .ref a :: rest) (zPic G m) := by
  subst hN
  subst hj
  exact fun H locs ls hP hS hl => va_zald (D := zD G) (cl := vwCl) (tys := ztys G) (ws := [(a, .inl (zcy G 3, zal c, .inl (zI m c o)))]) hF.1.1 hF.1.2.1 hF.2.1.1 (zsing (by have h := hP.2.1 a _ hk; rw [z_cellA hc, z_adI (by omega), hty] at h; exact h)) 0 3 rfl rfl hin hdg (K H locs ls hP hS hl)
theorem zx_lald (hF : zF C G cc nL Ts own) {a c o N : Nat} {i : Int32} (hk : zK G a = some (c, o)) (hc : ¬ c < 1000) (hty : zty c = 2) (hN : zal c = N) {j : Nat} (hin : vp_in i N) (hj : i.toNatClampNeg = j) (hdg : decode cc pc = .ok (.laload, 1))
    (K : zX C nL k n (pc + 1) L (.long (zJ m c o j) :: rest) (zPic G m)) : zX C nL k n pc L (.int i :: .ref a :: rest) (zPic G m) := by
  subst hN
  subst hj
  exact fun H locs ls hP hS hl => va_lald (D := zD G) (cl := vwCl) (tys := ztys G) (ws := [(a, .inl (zcy G 2, zal c, .inr (.inl (zJ m c o))))]) hF.1.1 hF.1.2.1 hF.2.1.1 (zsing (by have h := hP.2.1 a _ hk; rw [z_cellA hc, z_adJ hty, hty] at h; exact h)) 0 2 rfl rfl hin hdg (K H locs ls hP hS hl)
/-- a claim of the book's row -/
theorem zx_aaldC (hF : zF C G cc nL Ts own) {a o : Nat} {i : Int32} (hk : zK G a = some (1006, o)) {j : Nat} (hin : vp_in i 16) (hj : i.toNatClampNeg = j) (hdg : decode cc pc = .ok (.aaload, 1))
    (K : zX C nL k n (pc + 1) L (.ref (o + 11 + 7 * j) :: rest) (zPic G m)) : zX C nL k n pc L (.int i :: .ref a :: rest) (zPic G m) := by
  subst hj
  exact fun H locs ls hP hS hl => va_aldq (D := zD G) (cl := vwCl) (tys := ztys G) (ws := [(a, .inl (zcy G 5, 16, .inr (.inr (.inr (.inr (fun i => some (o + 11 + 7 * i)))))))]) hF.1.1 hF.1.2.1 hF.2.1.1 (zsing (hP.2.1 a _ hk)) 0 5 rfl rfl hin hdg (K H locs ls hP hS hl)
/-- an element of a row of addresses -/
theorem zx_aaldQ (hF : zF C G cc nL Ts own) {a c o N t : Nat} {CN : String} {i : Int32} (hk : zK G a = some (c, o)) (hc : ¬ c < 1000) (hty : zty c = t) (ht : t = 4 ∨ t = 5) (hcc : ¬ c = 1006) (htt : (ztys G)[t]? = some (zcy G t, .object CN)) (hN : zal c = N) {j : Nat} (hin : vp_in i N) (hj : i.toNatClampNeg = j) (hdg : decode cc pc = .ok (.aaload, 1))
    (K : zX C nL k n (pc + 1) L (va_rf (zQ m c o j) :: rest) (zPic G m)) : zX C nL k n pc L (.int i :: .ref a :: rest) (zPic G m) := by
  subst hN
  subst hj
  subst hty
  exact fun H locs ls hP hS hl => va_aldq (D := zD G) (cl := vwCl) (tys := ztys G) (ws := [(a, .inl (zcy G (zty c), zal c, .inr (.inr (.inr (.inr (zQ m c o))))))]) hF.1.1 hF.1.2.1 hF.2.1.1 (zsing (by have h := hP.2.1 a _ hk; rw [z_cellA hc, z_adQ ht hcc] at h; exact h)) 0 (zty c) rfl htt hin hdg (K H locs ls hP hS hl)
theorem z_arrOf {U : State} (hK : va_K (zD G) vwCl (ztys G) U) (t : Nat) {q : ClassId × FieldType} (ht : (ztys G)[t]? = some q) : ArrOfT U q.1 q.2 := (hK.2 t q ht).1
theorem zx_alen (hF : zF C G cc nL Ts own) {a c o N : Nat} {v : Int32} (hk : zK G a = some (c, o)) (hc : ¬ c < 1000) (hN : zal c = N) (hv : Int32.ofNat N = v) {q : ClassId × FieldType} (htt : (ztys G)[zty c]? = some q) (hq : q.1 = zcy G (zty c)) (hdg : decode cc pc = .ok (.arraylength, 1))
    (K : zX C nL k n (pc + 1) L (.int v :: rest) (zPic G m)) : zX C nL k n pc L (.ref a :: rest) (zPic G m) := by
  subst hN
  obtain ⟨q1, q2⟩ := q
  cases hq
  exact fun H locs ls hP hS hl => va_alen (D := zD G) (cl := vwCl) (tys := ztys G) (ws := [(a, .inl (zcy G (zty c), zal c, zad c o m))]) hF.1.1 hF.1.2.1 hF.2.1.1 (zsing (by have h := hP.2.1 a _ hk; rw [z_cellA hc] at h; exact h)) 0 (zty c) rfl htt hv hdg (K H locs ls hP hS hl)
theorem zx_iast (hF : zF C G cc nL Ts own) {a c o N : Nat} {i x xv : Int32} (hk : zK G a = some (c, o)) (hc : ¬ c < 1000) (hty : zty c = 1) (hN : zal c = N) {j : Nat} (hin : vp_in i N) (hj : i.toNatClampNeg = j) (hxv : x = xv) (hfv : zfitv c xv) (hdg : decode cc pc = .ok (.iastore, 1))
    (K : zX C nL k n (pc + 1) L rest (zPic G (zsI m c o j xv))) : zX C nL k n pc L (.int x :: .int i :: .ref a :: rest) (zPic G m) := by
  subst hN
  subst hj
  subst hxv
  intro H locs ls hP hS hl
  have hcell : H[a]? = some (arrV (zcy G 1) (zal c) (fun j => .int (zI m c o j))) := by have h := hP.2.1 a _ hk; rw [z_cellA hc, z_adI (by omega), hty] at h; exact h
  refine W.iast hF.1.1 hF.1.2.1 hcell (z_arrOf hF.2.1.1 1 rfl (zal c) (fun j => .int (zI m c o j))) (fun q => by cases q) (by rw [arrV_size]; exact hin) rfl rfl hdg fun H1 e z oq => ?_
  refine K H1 _ ls (zPic_upd hF.2.2.1 hP hk ?_ z oq (fun c' o' h => zag_sI (h.imp (fun q => by unfold zkf; rw [if_neg hc]; unfold zkey at q; rw [if_neg hc] at q; exact q) (fun q => q))) (zWT_sI hP.2.2 hfv)) (zS_kept hS z oq (hF.2.2.2.1 _ _ hk)) hl
  rw [z_cellA hc, z_adI (by omega), hty]
  show H1[a]? = some (vp_cell _ (_, Sum.inl _))
  rw [vp_cell_i, e, arrV_store]
  congr 2
  funext q
  by_cases hq : q = i.toNatClampNeg
  · subst hq
    simp [updV, zI_sI] <;> rfl
  · simp [updV, zI_sI, hq]
theorem zx_bast (hF : zF C G cc nL Ts own) {a c o N : Nat} {i x xv : Int32} (hk : zK G a = some (c, o)) (hc : ¬ c < 1000) (hty : zty c = 0) (hN : zal c = N) {j : Nat} (hin : vp_in i N) (hj : i.toNatClampNeg = j) (hxv : (vp_nar .byte x) = xv) (hfv : zfitv c xv) (hdg : decode cc pc = .ok (.bastore, 1))
    (K : zX C nL k n (pc + 1) L rest (zPic G (zsI m c o j xv))) : zX C nL k n pc L (.int x :: .int i :: .ref a :: rest) (zPic G m) := by
  subst hN
  subst hj
  subst hxv
  intro H locs ls hP hS hl
  have hcell : H[a]? = some (arrV (zcy G 0) (zal c) (fun j => .int (zI m c o j))) := by have h := hP.2.1 a _ hk; rw [z_cellA hc, z_adI (by omega), hty] at h; exact h
  refine W.bast hF.1.1 hF.1.2.1 hcell (z_arrOf hF.2.1.1 0 rfl (zal c) (fun j => .int (zI m c o j))) (fun q => by cases q) (by rw [arrV_size]; exact hin) rfl rfl hdg fun H1 e z oq => ?_
  refine K H1 _ ls (zPic_upd hF.2.2.1 hP hk ?_ z oq (fun c' o' h => zag_sI (h.imp (fun q => by unfold zkf; rw [if_neg hc]; unfold zkey at q; rw [if_neg hc] at q; exact q) (fun q => q))) (zWT_sI hP.2.2 hfv)) (zS_kept hS z oq (hF.2.2.2.1 _ _ hk)) hl
  rw [z_cellA hc, z_adI (by omega), hty]
  show H1[a]? = some (vp_cell _ (_, Sum.inl _))
  rw [vp_cell_i, e, arrV_store]
  congr 2
  funext q
  by_cases hq : q = i.toNatClampNeg
  · subst hq
    simp [updV, zI_sI] <;> rfl
  · simp [updV, zI_sI, hq]
theorem zx_zast (hF : zF C G cc nL Ts own) {a c o N : Nat} {i x xv : Int32} (hk : zK G a = some (c, o)) (hc : ¬ c < 1000) (hty : zty c = 3) (hN : zal c = N) {j : Nat} (hin : vp_in i N) (hj : i.toNatClampNeg = j) (hxv : (vp_nar .boolean x) = xv) (hfv : zfitv c xv) (hdg : decode cc pc = .ok (.bastore, 1))
    (K : zX C nL k n (pc + 1) L rest (zPic G (zsI m c o j xv))) : zX C nL k n pc L (.int x :: .int i :: .ref a :: rest) (zPic G m) := by
  subst hN
  subst hj
  subst hxv
  intro H locs ls hP hS hl
  have hcell : H[a]? = some (arrV (zcy G 3) (zal c) (fun j => .int (zI m c o j))) := by have h := hP.2.1 a _ hk; rw [z_cellA hc, z_adI (by omega), hty] at h; exact h
  refine W.zast hF.1.1 hF.1.2.1 hcell (z_arrOf hF.2.1.1 3 rfl (zal c) (fun j => .int (zI m c o j))) (fun q => by cases q) (by rw [arrV_size]; exact hin) rfl rfl hdg fun H1 e z oq => ?_
  refine K H1 _ ls (zPic_upd hF.2.2.1 hP hk ?_ z oq (fun c' o' h => zag_sI (h.imp (fun q => by unfold zkf; rw [if_neg hc]; unfold zkey at q; rw [if_neg hc] at q; exact q) (fun q => q))) (zWT_sI hP.2.2 hfv)) (zS_kept hS z oq (hF.2.2.2.1 _ _ hk)) hl
  rw [z_cellA hc, z_adI (by omega), hty]
  show H1[a]? = some (vp_cell _ (_, Sum.inl _))
  rw [vp_cell_i, e, arrV_store]
  congr 2
  funext q
  by_cases hq : q = i.toNatClampNeg
  · subst hq
    simp [updV, zI_sI] <;> rfl
  · simp [updV, zI_sI, hq]
theorem zx_last (hF : zF C G cc nL Ts own) {a c o N : Nat} {i : Int32} {x : Int64} (hk : zK G a = some (c, o)) (hc : ¬ c < 1000) (hty : zty c = 2) (hN : zal c = N) {j : Nat} (hin : vp_in i N) (hj : i.toNatClampNeg = j) (hdg : decode cc pc = .ok (.lastore, 1))
    (K : zX C nL k n (pc + 1) L rest (zPic G (zsJ m c o j x))) : zX C nL k n pc L (.long x :: .int i :: .ref a :: rest) (zPic G m) := by
  subst hN
  subst hj
  intro H locs ls hP hS hl
  have hcell : H[a]? = some (arrV (zcy G 2) (zal c) (fun j => .long (zJ m c o j))) := by have h := hP.2.1 a _ hk; rw [z_cellA hc, z_adJ hty, hty] at h; exact h
  refine W.last hF.1.1 hF.1.2.1 hcell (z_arrOf hF.2.1.1 2 rfl (zal c) (fun j => .long (zJ m c o j))) (fun q => by cases q) (by rw [arrV_size]; exact hin) rfl rfl hdg fun H1 e z oq => ?_
  refine K H1 _ ls (zPic_upd hF.2.2.1 hP hk ?_ z oq (fun c' o' h => zag_sJ (h.imp (fun q => by unfold zkf; rw [if_neg hc]; unfold zkey at q; rw [if_neg hc] at q; exact q) (fun q => q))) (zWT_sJ hP.2.2)) (zS_kept hS z oq (hF.2.2.2.1 _ _ hk)) hl
  rw [z_cellA hc, z_adJ hty, hty]
  show H1[a]? = some (vp_cell _ (_, Sum.inr (Sum.inl _)))
  rw [vp_cell_l, e, arrV_store]
  congr 2
  funext q
  by_cases hq : q = i.toNatClampNeg
  · subst hq
    simp [updV, zJ_sJ]
  · simp [updV, zJ_sJ, hq]
end ZR
