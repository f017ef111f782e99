/-! ===== rows for the instructions that leave the heap (printed by wip/tools/genrows.py) ===== -/
section GjRows
variable {z : State} {l : Launch} {M : Mt} {d pc : Nat} {ls st : List Value} {σ : Hp} {Q : Outcome → Hp → Prop}
theorem go_iconst {n : Int} {v : Int32} (hv : Int32.ofInt n = v) (hd : decode M.cc pc = .ok (.iconst n, 1)) (k : Go z l M d (pc + 1) ls (.int v :: st) σ Q) : Go z l M d pc ls (st) σ Q :=
  go_lift0 (fun p e R s m args below meth c la H locs cells slots Q' X hl hr kk => lv_iconst X.1 X.2.1 hd hv kk) k
theorem go_bipush {n : Int} {v : Int32} (hv : (Int8.ofInt n).toInt32 = v) (hd : decode M.cc pc = .ok (.bipush n, 2)) (k : Go z l M d (pc + 2) ls (.int v :: st) σ Q) : Go z l M d pc ls (st) σ Q :=
  go_lift0 (fun p e R s m args below meth c la H locs cells slots Q' X hl hr kk => lv_bipush X.1 X.2.1 hd hv kk) k
theorem go_sipush {n : Int} {v : Int32} (hv : (Int16.ofInt n).toInt32 = v) (hd : decode M.cc pc = .ok (.sipush n, 3)) (k : Go z l M d (pc + 3) ls (.int v :: st) σ Q) : Go z l M d pc ls (st) σ Q :=
  go_lift0 (fun p e R s m args below meth c la H locs cells slots Q' X hl hr kk => lv_sipush X.1 X.2.1 hd hv kk) k
theorem go_lconst {n : Fin 2} {v : Int64} (hv : Int64.ofNat (n : Nat) = v) (hd : decode M.cc pc = .ok (.lconst n, 1)) (k : Go z l M d (pc + 1) ls (.long v :: st) σ Q) : Go z l M d pc ls (st) σ Q :=
  go_lift0 (fun p e R s m args below meth c la H locs cells slots Q' X hl hr kk => lv_lconst X.1 X.2.1 hd hv kk) k
theorem go_null (hd : decode M.cc pc = .ok (.aconst_null, 1)) (k : Go z l M d (pc + 1) ls (.null :: st) σ Q) : Go z l M d pc ls (st) σ Q :=
  go_lift0 (fun p e R s m args below meth c la H locs cells slots Q' X hl hr kk => lv_null X.1 X.2.1 hd kk) k
theorem go_ldc {i : Nat} {v : Int32} (hw : Cond.constant M.y.cls i v ∈ tw_all) (hd : decode M.cc pc = .ok (.ldc i, 2)) (k : Go z l M d (pc + 2) ls (.int v :: st) σ Q) : Go z l M d pc ls (st) σ Q :=
  go_lift0 (fun p e R s m args below meth c la H locs cells slots Q' X hl hr kk => lv_ldc X.1 X.2.1 X.own (X.word hw args) hd kk) k
theorem go_ldcw {i : Nat} {v : Int32} (hw : Cond.constant M.y.cls i v ∈ tw_all) (hd : decode M.cc pc = .ok (.ldc_w i, 3)) (k : Go z l M d (pc + 3) ls (.int v :: st) σ Q) : Go z l M d pc ls (st) σ Q :=
  go_lift0 (fun p e R s m args below meth c la H locs cells slots Q' X hl hr kk => lv_ldcw X.1 X.2.1 X.own (X.word hw args) hd kk) k
theorem go_ldc2 {i : Nat} {v : Int64} (hw : Cond.constantLong M.y.cls i v ∈ tw_all) (hd : decode M.cc pc = .ok (.ldc2_w i, 3)) (k : Go z l M d (pc + 3) ls (.long v :: st) σ Q) : Go z l M d pc ls (st) σ Q :=
  go_lift0 (fun p e R s m args below meth c la H locs cells slots Q' X hl hr kk => lv_ldc2 X.1 X.2.1 X.own (X.word hw args) hd kk) k
theorem go_iload_n {n : Fin 4} {i : Nat} {x : Int32} (hi : (n : Nat) = i) (hv : ls[i]? = some (.int x)) (hd : decode M.cc pc = .ok (.iload_n n, 1)) (k : Go z l M d (pc + 1) ls (.int x :: st) σ Q) : Go z l M d pc ls (st) σ Q :=
  go_lift0 (fun p e R s m args below meth c la H locs cells slots Q' X hl hr kk => lv_iload_n X.1 X.2.1 hd hi (hl.get hv (by simp)) kk) k
theorem go_iload {i : Nat} {x : Int32} (hv : ls[i]? = some (.int x)) (hd : decode M.cc pc = .ok (.iload i, 2)) (k : Go z l M d (pc + 2) ls (.int x :: st) σ Q) : Go z l M d pc ls (st) σ Q :=
  go_lift0 (fun p e R s m args below meth c la H locs cells slots Q' X hl hr kk => lv_iload X.1 X.2.1 hd (hl.get hv (by simp)) kk) k
theorem go_lload_n {n : Fin 4} {i : Nat} {x : Int64} (hi : (n : Nat) = i) (hv : ls[i]? = some (.long x)) (hd : decode M.cc pc = .ok (.lload_n n, 1)) (k : Go z l M d (pc + 1) ls (.long x :: st) σ Q) : Go z l M d pc ls (st) σ Q :=
  go_lift0 (fun p e R s m args below meth c la H locs cells slots Q' X hl hr kk => lv_lload_n X.1 X.2.1 hd hi (hl.get hv (by simp)) kk) k
theorem go_lload {i : Nat} {x : Int64} (hv : ls[i]? = some (.long x)) (hd : decode M.cc pc = .ok (.lload i, 2)) (k : Go z l M d (pc + 2) ls (.long x :: st) σ Q) : Go z l M d pc ls (st) σ Q :=
  go_lift0 (fun p e R s m args below meth c la H locs cells slots Q' X hl hr kk => lv_lload X.1 X.2.1 hd (hl.get hv (by simp)) kk) k
theorem go_aload_n {n : Fin 4} {i : Nat} {x : Nat} (hi : (n : Nat) = i) (hv : ls[i]? = some (.ref x)) (hd : decode M.cc pc = .ok (.aload_n n, 1)) (k : Go z l M d (pc + 1) ls (.ref x :: st) σ Q) : Go z l M d pc ls (st) σ Q :=
  go_lift0 (fun p e R s m args below meth c la H locs cells slots Q' X hl hr kk => lv_aload_n X.1 X.2.1 hd hi (hl.get hv (by simp)) kk) k
theorem go_aload {i : Nat} {x : Nat} (hv : ls[i]? = some (.ref x)) (hd : decode M.cc pc = .ok (.aload i, 2)) (k : Go z l M d (pc + 2) ls (.ref x :: st) σ Q) : Go z l M d pc ls (st) σ Q :=
  go_lift0 (fun p e R s m args below meth c la H locs cells slots Q' X hl hr kk => lv_aload X.1 X.2.1 hd (hl.get hv (by simp)) kk) k
theorem go_aload_nq {n : Fin 4} {i : Nat} {x : Option Nat} (hi : (n : Nat) = i) (hv : ls[i]? = some (va_rf x)) (hd : decode M.cc pc = .ok (.aload_n n, 1)) (k : Go z l M d (pc + 1) ls (va_rf x :: st) σ Q) : Go z l M d pc ls st σ Q :=
  match x, hv, k with
  | none, hv, k => go_lift0 (fun p e R s m args below meth c la H locs cells slots Q' X hl hr kk => lv_aload_nN X.1 X.2.1 hd hi (hl.get hv (by simp [va_rf])) kk) k
  | some _, hv, k => go_aload_n hi hv hd k
theorem go_aloadq {i : Nat} {x : Option Nat} (hv : ls[i]? = some (va_rf x)) (hd : decode M.cc pc = .ok (.aload i, 2)) (k : Go z l M d (pc + 2) ls (va_rf x :: st) σ Q) : Go z l M d pc ls st σ Q :=
  match x, hv, k with
  | none, hv, k => go_lift0 (fun p e R s m args below meth c la H locs cells slots Q' X hl hr kk => lv_aloadN X.1 X.2.1 hd (hl.get hv (by simp [va_rf])) kk) k
  | some _, hv, k => go_aload hv hd k
theorem go_istore_n {n : Fin 4} {i : Nat} {x : Int32} {ls2 : List Value} (hi : (n : Nat) = i) (hn : i < M.nL) (hls : gj_st1 ls i (.int x) = ls2) (hd : decode M.cc pc = .ok (.istore_n n, 1)) (k : Go z l M d (pc + 1) ls2 st σ Q) : Go z l M d pc ls (.int x :: st) σ Q :=
  go_lift (fun p e R s m args below meth c la H locs cells slots Q' X hl hr kk => lv_istore_n X.1 X.2.1 hd hi hl.has hn rfl fun la2 h2 => kk la2 (hls ▸ gj_Lv.st1 hl.2.2.1 h2)) k
theorem go_istore {i : Nat} {x : Int32} {ls2 : List Value} (hn : i < M.nL) (hls : gj_st1 ls i (.int x) = ls2) (hd : decode M.cc pc = .ok (.istore i, 2)) (k : Go z l M d (pc + 2) ls2 st σ Q) : Go z l M d pc ls (.int x :: st) σ Q :=
  go_lift (fun p e R s m args below meth c la H locs cells slots Q' X hl hr kk => lv_istore X.1 X.2.1 hd hl.has hn rfl fun la2 h2 => kk la2 (hls ▸ gj_Lv.st1 hl.2.2.1 h2)) k
theorem go_astore_n {n : Fin 4} {i : Nat} {x : Nat} {ls2 : List Value} (hi : (n : Nat) = i) (hn : i < M.nL) (hls : gj_st1 ls i (.ref x) = ls2) (hd : decode M.cc pc = .ok (.astore_n n, 1)) (k : Go z l M d (pc + 1) ls2 st σ Q) : Go z l M d pc ls (.ref x :: st) σ Q :=
  go_lift (fun p e R s m args below meth c la H locs cells slots Q' X hl hr kk => lv_astore_n X.1 X.2.1 hd hi hl.has hn rfl fun la2 h2 => kk la2 (hls ▸ gj_Lv.st1 hl.2.2.1 h2)) k
theorem go_astore {i : Nat} {x : Nat} {ls2 : List Value} (hn : i < M.nL) (hls : gj_st1 ls i (.ref x) = ls2) (hd : decode M.cc pc = .ok (.astore i, 2)) (k : Go z l M d (pc + 2) ls2 st σ Q) : Go z l M d pc ls (.ref x :: st) σ Q :=
  go_lift (fun p e R s m args below meth c la H locs cells slots Q' X hl hr kk => lv_astore X.1 X.2.1 hd hl.has hn rfl fun la2 h2 => kk la2 (hls ▸ gj_Lv.st1 hl.2.2.1 h2)) k
theorem go_astore_nq {n : Fin 4} {i : Nat} {x : Option Nat} {ls2 : List Value} (hi : (n : Nat) = i) (hn : i < M.nL) (hls : gj_st1 ls i (va_rf x) = ls2) (hd : decode M.cc pc = .ok (.astore_n n, 1)) (k : Go z l M d (pc + 1) ls2 st σ Q) : Go z l M d pc ls (va_rf x :: st) σ Q :=
  match x, hls with
  | none, hls => go_lift (fun p e R s m args below meth c la H locs cells slots Q' X hl hr kk => lv_astore_nN X.1 X.2.1 hd hi hl.has hn rfl fun la2 h2 => kk la2 (hls ▸ gj_Lv.st1 hl.2.2.1 h2)) k
  | some _, hls => go_astore_n hi hn hls hd k
theorem go_astoreq {i : Nat} {x : Option Nat} {ls2 : List Value} (hn : i < M.nL) (hls : gj_st1 ls i (va_rf x) = ls2) (hd : decode M.cc pc = .ok (.astore i, 2)) (k : Go z l M d (pc + 2) ls2 st σ Q) : Go z l M d pc ls (va_rf x :: st) σ Q :=
  match x, hls with
  | none, hls => go_lift (fun p e R s m args below meth c la H locs cells slots Q' X hl hr kk => lv_astoreN X.1 X.2.1 hd hl.has hn rfl fun la2 h2 => kk la2 (hls ▸ gj_Lv.st1 hl.2.2.1 h2)) k
  | some _, hls => go_astore hn hls hd k
theorem go_lstore_n {n : Fin 4} {i : Nat} {x : Int64} {ls2 : List Value} (hi : (n : Nat) = i) (hn : i + 1 < M.nL) (hls : gj_st2 ls i (.long x) = ls2) (hd : decode M.cc pc = .ok (.lstore_n n, 1)) (k : Go z l M d (pc + 1) ls2 st σ Q) : Go z l M d pc ls (.long x :: st) σ Q :=
  go_lift (fun p e R s m args below meth c la H locs cells slots Q' X hl hr kk => lv_lstore_n X.1 X.2.1 hd hi hl.has hn rfl fun la2 h2 => kk la2 (hls ▸ gj_Lv.st2 hl.2.2.1 h2)) k
theorem go_lstore {i : Nat} {x : Int64} {ls2 : List Value} (hn : i + 1 < M.nL) (hls : gj_st2 ls i (.long x) = ls2) (hd : decode M.cc pc = .ok (.lstore i, 2)) (k : Go z l M d (pc + 2) ls2 st σ Q) : Go z l M d pc ls (.long x :: st) σ Q :=
  go_lift (fun p e R s m args below meth c la H locs cells slots Q' X hl hr kk => lv_lstore X.1 X.2.1 hd hl.has hn rfl fun la2 h2 => kk la2 (hls ▸ gj_Lv.st2 hl.2.2.1 h2)) k
theorem go_iinc {i : Nat} {n : Int} {x v : Int32} {ls2 : List Value} (hx : ls[i]? = some (.int x)) (hv : x + Int32.ofInt n = v) (hn : i < M.nL) (hls : gj_st1 ls i (.int v) = ls2) (hd : decode M.cc pc = .ok (.iinc i n, 3)) (k : Go z l M d (pc + 3) ls2 st σ Q) : Go z l M d pc ls st σ Q :=
  go_lift (fun p e R s m args below meth c la H locs cells slots Q' X hl hr kk => by
    obtain ⟨q, hq⟩ := List.getElem?_of_mem (gj_pairs_mem.mpr ⟨hx, by simp⟩)
    exact lv_iinc X.1 X.2.1 hd hl.has (k := q) hq hv hn rfl fun la2 h2 => kk la2 (hls ▸ gj_Lv.st1 hl.2.2.1 h2)) k
theorem go_iadd {x y : Int32} (hd : decode M.cc pc = .ok (.iadd, 1)) (k : Go z l M d (pc + 1) ls (.int (x + y) :: st) σ Q) : Go z l M d pc ls (.int y :: .int x :: st) σ Q :=
  go_lift0 (fun p e R s m args below meth c la H locs cells slots Q' X hl hr kk => lv_iadd X.1 X.2.1 hd kk) k
theorem go_isub {x y : Int32} (hd : decode M.cc pc = .ok (.isub, 1)) (k : Go z l M d (pc + 1) ls (.int (x - y) :: st) σ Q) : Go z l M d pc ls (.int y :: .int x :: st) σ Q :=
  go_lift0 (fun p e R s m args below meth c la H locs cells slots Q' X hl hr kk => lv_isub X.1 X.2.1 hd kk) k
theorem go_imul {x y : Int32} (hd : decode M.cc pc = .ok (.imul, 1)) (k : Go z l M d (pc + 1) ls (.int (x * y) :: st) σ Q) : Go z l M d pc ls (.int y :: .int x :: st) σ Q :=
  go_lift0 (fun p e R s m args below meth c la H locs cells slots Q' X hl hr kk => lv_imul X.1 X.2.1 hd kk) k
theorem go_iand {x y : Int32} (hd : decode M.cc pc = .ok (.iand, 1)) (k : Go z l M d (pc + 1) ls (.int (x &&& y) :: st) σ Q) : Go z l M d pc ls (.int y :: .int x :: st) σ Q :=
  go_lift0 (fun p e R s m args below meth c la H locs cells slots Q' X hl hr kk => lv_iand X.1 X.2.1 hd kk) k
theorem go_ior {x y : Int32} (hd : decode M.cc pc = .ok (.ior, 1)) (k : Go z l M d (pc + 1) ls (.int (x ||| y) :: st) σ Q) : Go z l M d pc ls (.int y :: .int x :: st) σ Q :=
  go_lift0 (fun p e R s m args below meth c la H locs cells slots Q' X hl hr kk => lv_ior X.1 X.2.1 hd kk) k
theorem go_ixor {x y : Int32} (hd : decode M.cc pc = .ok (.ixor, 1)) (k : Go z l M d (pc + 1) ls (.int (x ^^^ y) :: st) σ Q) : Go z l M d pc ls (.int y :: .int x :: st) σ Q :=
  go_lift0 (fun p e R s m args below meth c la H locs cells slots Q' X hl hr kk => lv_ixor X.1 X.2.1 hd kk) k
theorem go_ladd {x y : Int64} (hd : decode M.cc pc = .ok (.ladd, 1)) (k : Go z l M d (pc + 1) ls (.long (x + y) :: st) σ Q) : Go z l M d pc ls (.long y :: .long x :: st) σ Q :=
  go_lift0 (fun p e R s m args below meth c la H locs cells slots Q' X hl hr kk => lv_ladd X.1 X.2.1 hd kk) k
theorem go_lsub {x y : Int64} (hd : decode M.cc pc = .ok (.lsub, 1)) (k : Go z l M d (pc + 1) ls (.long (x - y) :: st) σ Q) : Go z l M d pc ls (.long y :: .long x :: st) σ Q :=
  go_lift0 (fun p e R s m args below meth c la H locs cells slots Q' X hl hr kk => lv_lsub X.1 X.2.1 hd kk) k
theorem go_lmul {x y : Int64} (hd : decode M.cc pc = .ok (.lmul, 1)) (k : Go z l M d (pc + 1) ls (.long (x * y) :: st) σ Q) : Go z l M d pc ls (.long y :: .long x :: st) σ Q :=
  go_lift0 (fun p e R s m args below meth c la H locs cells slots Q' X hl hr kk => lv_lmul X.1 X.2.1 hd kk) k
theorem go_land {x y : Int64} (hd : decode M.cc pc = .ok (.land, 1)) (k : Go z l M d (pc + 1) ls (.long (x &&& y) :: st) σ Q) : Go z l M d pc ls (.long y :: .long x :: st) σ Q :=
  go_lift0 (fun p e R s m args below meth c la H locs cells slots Q' X hl hr kk => lv_land X.1 X.2.1 hd kk) k
theorem go_lor {x y : Int64} (hd : decode M.cc pc = .ok (.lor, 1)) (k : Go z l M d (pc + 1) ls (.long (x ||| y) :: st) σ Q) : Go z l M d pc ls (.long y :: .long x :: st) σ Q :=
  go_lift0 (fun p e R s m args below meth c la H locs cells slots Q' X hl hr kk => lv_lor X.1 X.2.1 hd kk) k
theorem go_lxor {x y : Int64} (hd : decode M.cc pc = .ok (.lxor, 1)) (k : Go z l M d (pc + 1) ls (.long (x ^^^ y) :: st) σ Q) : Go z l M d pc ls (.long y :: .long x :: st) σ Q :=
  go_lift0 (fun p e R s m args below meth c la H locs cells slots Q' X hl hr kk => lv_lxor X.1 X.2.1 hd kk) k
theorem go_idiv {x y : Int32} (hne : ¬ y = 0) (hd : decode M.cc pc = .ok (.idiv, 1)) (k : Go z l M d (pc + 1) ls (.int (x / y) :: st) σ Q) : Go z l M d pc ls (.int y :: .int x :: st) σ Q :=
  go_lift0 (fun p e R s m args below meth c la H locs cells slots Q' X hl hr kk => lv_idiv X.1 X.2.1 hd hne kk) k
theorem go_irem {x y : Int32} (hne : ¬ y = 0) (hd : decode M.cc pc = .ok (.irem, 1)) (k : Go z l M d (pc + 1) ls (.int (x - x / y * y) :: st) σ Q) : Go z l M d pc ls (.int y :: .int x :: st) σ Q :=
  go_lift0 (fun p e R s m args below meth c la H locs cells slots Q' X hl hr kk => lv_irem X.1 X.2.1 hd hne kk) k
theorem go_ineg {x : Int32} (hd : decode M.cc pc = .ok (.ineg, 1)) (k : Go z l M d (pc + 1) ls (.int (-x) :: st) σ Q) : Go z l M d pc ls (.int x :: st) σ Q :=
  go_lift0 (fun p e R s m args below meth c la H locs cells slots Q' X hl hr kk => lv_ineg X.1 X.2.1 hd kk) k
theorem go_ldiv {x y : Int64} (hne : ¬ y = 0) (hd : decode M.cc pc = .ok (.ldiv, 1)) (k : Go z l M d (pc + 1) ls (.long (x / y) :: st) σ Q) : Go z l M d pc ls (.long y :: .long x :: st) σ Q :=
  go_lift0 (fun p e R s m args below meth c la H locs cells slots Q' X hl hr kk => lv_ldiv X.1 X.2.1 hd hne kk) k
theorem go_lrem {x y : Int64} (hne : ¬ y = 0) (hd : decode M.cc pc = .ok (.lrem, 1)) (k : Go z l M d (pc + 1) ls (.long (x - x / y * y) :: st) σ Q) : Go z l M d pc ls (.long y :: .long x :: st) σ Q :=
  go_lift0 (fun p e R s m args below meth c la H locs cells slots Q' X hl hr kk => lv_lrem X.1 X.2.1 hd hne kk) k
theorem go_lneg {x : Int64} (hd : decode M.cc pc = .ok (.lneg, 1)) (k : Go z l M d (pc + 1) ls (.long (-x) :: st) σ Q) : Go z l M d pc ls (.long x :: st) σ Q :=
  go_lift0 (fun p e R s m args below meth c la H locs cells slots Q' X hl hr kk => lv_lneg X.1 X.2.1 hd kk) k
theorem go_ishl {x y : Int32} (hd : decode M.cc pc = .ok (.ishl, 1)) (k : Go z l M d (pc + 1) ls (.int (x <<< (y &&& 31)) :: st) σ Q) : Go z l M d pc ls (.int y :: .int x :: st) σ Q :=
  go_lift0 (fun p e R s m args below meth c la H locs cells slots Q' X hl hr kk => lv_ishl X.1 X.2.1 hd kk) k
theorem go_ishr {x y : Int32} (hd : decode M.cc pc = .ok (.ishr, 1)) (k : Go z l M d (pc + 1) ls (.int (x >>> (y &&& 31)) :: st) σ Q) : Go z l M d pc ls (.int y :: .int x :: st) σ Q :=
  go_lift0 (fun p e R s m args below meth c la H locs cells slots Q' X hl hr kk => lv_ishr X.1 X.2.1 hd kk) k
theorem go_iushr {x y : Int32} (hd : decode M.cc pc = .ok (.iushr, 1)) (k : Go z l M d (pc + 1) ls (.int (x.toUInt32 >>> (y.toUInt32 &&& Int32.toUInt32 31)).toInt32 :: st) σ Q) : Go z l M d pc ls (.int y :: .int x :: st) σ Q :=
  go_lift0 (fun p e R s m args below meth c la H locs cells slots Q' X hl hr kk => lv_iushr X.1 X.2.1 hd rfl kk) k
theorem go_lshl {x : Int64} {y : Int32} (hd : decode M.cc pc = .ok (.lshl, 1)) (k : Go z l M d (pc + 1) ls (.long (x <<< (y.toInt64 &&& 63)) :: st) σ Q) : Go z l M d pc ls (.int y :: .long x :: st) σ Q :=
  go_lift0 (fun p e R s m args below meth c la H locs cells slots Q' X hl hr kk => lv_lshl X.1 X.2.1 hd rfl kk) k
theorem go_lshr {x : Int64} {y : Int32} (hd : decode M.cc pc = .ok (.lshr, 1)) (k : Go z l M d (pc + 1) ls (.long (x >>> (y.toInt64 &&& 63)) :: st) σ Q) : Go z l M d pc ls (.int y :: .long x :: st) σ Q :=
  go_lift0 (fun p e R s m args below meth c la H locs cells slots Q' X hl hr kk => lv_lshr X.1 X.2.1 hd rfl kk) k
theorem go_i2l {x : Int32} (hd : decode M.cc pc = .ok (.i2l, 1)) (k : Go z l M d (pc + 1) ls (.long x.toInt64 :: st) σ Q) : Go z l M d pc ls (.int x :: st) σ Q :=
  go_lift0 (fun p e R s m args below meth c la H locs cells slots Q' X hl hr kk => lv_i2l X.1 X.2.1 hd rfl kk) k
theorem go_l2i {x : Int64} (hd : decode M.cc pc = .ok (.l2i, 1)) (k : Go z l M d (pc + 1) ls (.int x.toInt32 :: st) σ Q) : Go z l M d pc ls (.long x :: st) σ Q :=
  go_lift0 (fun p e R s m args below meth c la H locs cells slots Q' X hl hr kk => lv_l2i X.1 X.2.1 hd rfl kk) k
theorem go_i2b {x : Int32} (hd : decode M.cc pc = .ok (.i2b, 1)) (k : Go z l M d (pc + 1) ls (.int x.toInt8.toInt32 :: st) σ Q) : Go z l M d pc ls (.int x :: st) σ Q :=
  go_lift0 (fun p e R s m args below meth c la H locs cells slots Q' X hl hr kk => lv_i2b X.1 X.2.1 hd rfl kk) k
theorem go_i2c {x : Int32} (hd : decode M.cc pc = .ok (.i2c, 1)) (k : Go z l M d (pc + 1) ls (.int (x.toUInt32 % 65536).toInt32 :: st) σ Q) : Go z l M d pc ls (.int x :: st) σ Q :=
  go_lift0 (fun p e R s m args below meth c la H locs cells slots Q' X hl hr kk => lv_i2c X.1 X.2.1 hd rfl kk) k
theorem go_lcmp {x y : Int64} (hd : decode M.cc pc = .ok (.lcmp, 1)) (k : Go z l M d (pc + 1) ls (.int (lg_cmp x y) :: st) σ Q) : Go z l M d pc ls (.long y :: .long x :: st) σ Q :=
  go_lift0 (fun p e R s m args below meth c la H locs cells slots Q' X hl hr kk => W.lcmp X.1 X.2.1 hd kk) k
theorem go_dup {va : Value} (hva : va.category = 1) (hd : decode M.cc pc = .ok (.dup, 1)) (k : Go z l M d (pc + 1) ls (va :: va :: st) σ Q) : Go z l M d pc ls (va :: st) σ Q :=
  go_lift0 (fun p e R s m args below meth c la H locs cells slots Q' X hl hr kk => lv_dup X.1 X.2.1 hd hva kk) k
theorem go_pop {va : Value} (hva : va.category = 1) (hd : decode M.cc pc = .ok (.pop, 1)) (k : Go z l M d (pc + 1) ls (st) σ Q) : Go z l M d pc ls (va :: st) σ Q :=
  go_lift0 (fun p e R s m args below meth c la H locs cells slots Q' X hl hr kk => lv_pop X.1 X.2.1 hd hva kk) k
theorem go_dup_x1 {va vb : Value} (hva : va.category = 1) (hvb : vb.category = 1) (hd : decode M.cc pc = .ok (.dup_x1, 1)) (k : Go z l M d (pc + 1) ls (va :: vb :: va :: st) σ Q) : Go z l M d pc ls (va :: vb :: st) σ Q :=
  go_lift0 (fun p e R s m args below meth c la H locs cells slots Q' X hl hr kk => lv_dup_x1 X.1 X.2.1 hd hva hvb kk) k
theorem go_dup_x2 {va vb vd : Value} (hva : va.category = 1) (hvb : vb.category = 1) (hvd : vd.category = 1) (hd : decode M.cc pc = .ok (.dup_x2, 1)) (k : Go z l M d (pc + 1) ls (va :: vb :: vd :: va :: st) σ Q) : Go z l M d pc ls (va :: vb :: vd :: st) σ Q :=
  go_lift0 (fun p e R s m args below meth c la H locs cells slots Q' X hl hr kk => lv_dup_x2 X.1 X.2.1 hd hva hvb hvd kk) k
theorem go_dup2 {va vb : Value} (hva : va.category = 1) (hvb : vb.category = 1) (hd : decode M.cc pc = .ok (.dup2, 1)) (k : Go z l M d (pc + 1) ls (va :: vb :: va :: vb :: st) σ Q) : Go z l M d pc ls (va :: vb :: st) σ Q :=
  go_lift0 (fun p e R s m args below meth c la H locs cells slots Q' X hl hr kk => lv_dup2_11 X.1 X.2.1 hd hva hvb kk) k
theorem go_dup2L {va : Value} (hva : va.category = 2) (hd : decode M.cc pc = .ok (.dup2, 1)) (k : Go z l M d (pc + 1) ls (va :: va :: st) σ Q) : Go z l M d pc ls (va :: st) σ Q :=
  go_lift0 (fun p e R s m args below meth c la H locs cells slots Q' X hl hr kk => lv_dup2_2 X.1 X.2.1 hd hva kk) k
theorem go_pop2L {va : Value} (hva : va.category = 2) (hd : decode M.cc pc = .ok (.pop2, 1)) (k : Go z l M d (pc + 1) ls (st) σ Q) : Go z l M d pc ls (va :: st) σ Q :=
  go_lift0 (fun p e R s m args below meth c la H locs cells slots Q' X hl hr kk => lv_pop2_2 X.1 X.2.1 hd hva kk) k
theorem go_dup2_x1L {va vb : Value} (hva : va.category = 2) (hvb : vb.category = 1) (hd : decode M.cc pc = .ok (.dup2_x1, 1)) (k : Go z l M d (pc + 1) ls (va :: vb :: va :: st) σ Q) : Go z l M d pc ls (va :: vb :: st) σ Q :=
  go_lift0 (fun p e R s m args below meth c la H locs cells slots Q' X hl hr kk => lv_dup2_x1_2 X.1 X.2.1 hd hva hvb kk) k
theorem go_if_eq {x : Int32} {off : Int} {tgt : Nat} (ht : (pc : Int) + off = (tgt : Int)) (hd : decode M.cc pc = .ok (.ifCond .eq off, 3)) (kt : x = 0 → Go z l M d tgt ls st σ Q) (kf : ¬ x = 0 → Go z l M d (pc + 3) ls st σ Q) : Go z l M d pc ls (.int x :: st) σ Q := by
  by_cases h : x = 0
  · exact go_lift0 (fun p e R s m args below meth c la H locs cells slots Q' X hl hr kk => lv_if_eq X.1 X.2.1 hd ht (fun _ => kk) (fun q => absurd h q)) (kt h)
  · exact go_lift0 (fun p e R s m args below meth c la H locs cells slots Q' X hl hr kk => lv_if_eq X.1 X.2.1 hd ht (fun q => absurd q h) (fun _ => kk)) (kf h)
theorem go_icmp_eq {x y : Int32} {off : Int} {tgt : Nat} (ht : (pc : Int) + off = (tgt : Int)) (hd : decode M.cc pc = .ok (.if_icmp .eq off, 3)) (kt : x = y → Go z l M d tgt ls st σ Q) (kf : ¬ x = y → Go z l M d (pc + 3) ls st σ Q) : Go z l M d pc ls (.int y :: .int x :: st) σ Q := by
  by_cases h : x = y
  · exact go_lift0 (fun p e R s m args below meth c la H locs cells slots Q' X hl hr kk => lv_icmp_eq X.1 X.2.1 hd ht (fun _ => kk) (fun q => absurd h q)) (kt h)
  · exact go_lift0 (fun p e R s m args below meth c la H locs cells slots Q' X hl hr kk => lv_icmp_eq X.1 X.2.1 hd ht (fun q => absurd q h) (fun _ => kk)) (kf h)
theorem go_if_ne {x : Int32} {off : Int} {tgt : Nat} (ht : (pc : Int) + off = (tgt : Int)) (hd : decode M.cc pc = .ok (.ifCond .ne off, 3)) (kt : ¬ x = 0 → Go z l M d tgt ls st σ Q) (kf : x = 0 → Go z l M d (pc + 3) ls st σ Q) : Go z l M d pc ls (.int x :: st) σ Q := by
  by_cases h : x = 0
  · exact go_lift0 (fun p e R s m args below meth c la H locs cells slots Q' X hl hr kk => lv_if_ne X.1 X.2.1 hd ht (fun q => absurd h q) (fun _ => kk)) (kf h)
  · exact go_lift0 (fun p e R s m args below meth c la H locs cells slots Q' X hl hr kk => lv_if_ne X.1 X.2.1 hd ht (fun _ => kk) (fun q => absurd q h)) (kt h)
theorem go_icmp_ne {x y : Int32} {off : Int} {tgt : Nat} (ht : (pc : Int) + off = (tgt : Int)) (hd : decode M.cc pc = .ok (.if_icmp .ne off, 3)) (kt : ¬ x = y → Go z l M d tgt ls st σ Q) (kf : x = y → Go z l M d (pc + 3) ls st σ Q) : Go z l M d pc ls (.int y :: .int x :: st) σ Q := by
  by_cases h : x = y
  · exact go_lift0 (fun p e R s m args below meth c la H locs cells slots Q' X hl hr kk => lv_icmp_ne X.1 X.2.1 hd ht (fun q => absurd h q) (fun _ => kk)) (kf h)
  · exact go_lift0 (fun p e R s m args below meth c la H locs cells slots Q' X hl hr kk => lv_icmp_ne X.1 X.2.1 hd ht (fun _ => kk) (fun q => absurd q h)) (kt h)
theorem go_if_lt {x : Int32} {off : Int} {tgt : Nat} (ht : (pc : Int) + off = (tgt : Int)) (hd : decode M.cc pc = .ok (.ifCond .lt off, 3)) (kt : x < 0 → Go z l M d tgt ls st σ Q) (kf : ¬ x < 0 → Go z l M d (pc + 3) ls st σ Q) : Go z l M d pc ls (.int x :: st) σ Q := by
  by_cases h : x < 0
  · exact go_lift0 (fun p e R s m args below meth c la H locs cells slots Q' X hl hr kk => lv_if_lt X.1 X.2.1 hd ht (fun _ => kk) (fun q => absurd h q)) (kt h)
  · exact go_lift0 (fun p e R s m args below meth c la H locs cells slots Q' X hl hr kk => lv_if_lt X.1 X.2.1 hd ht (fun q => absurd q h) (fun _ => kk)) (kf h)
theorem go_icmp_lt {x y : Int32} {off : Int} {tgt : Nat} (ht : (pc : Int) + off = (tgt : Int)) (hd : decode M.cc pc = .ok (.if_icmp .lt off, 3)) (kt : x < y → Go z l M d tgt ls st σ Q) (kf : ¬ x < y → Go z l M d (pc + 3) ls st σ Q) : Go z l M d pc ls (.int y :: .int x :: st) σ Q := by
  by_cases h : x < y
  · exact go_lift0 (fun p e R s m args below meth c la H locs cells slots Q' X hl hr kk => lv_icmp_lt X.1 X.2.1 hd ht (fun _ => kk) (fun q => absurd h q)) (kt h)
  · exact go_lift0 (fun p e R s m args below meth c la H locs cells slots Q' X hl hr kk => lv_icmp_lt X.1 X.2.1 hd ht (fun q => absurd q h) (fun _ => kk)) (kf h)
theorem go_if_ge {x : Int32} {off : Int} {tgt : Nat} (ht : (pc : Int) + off = (tgt : Int)) (hd : decode M.cc pc = .ok (.ifCond .ge off, 3)) (kt : 0 ≤ x → Go z l M d tgt ls st σ Q) (kf : ¬ 0 ≤ x → Go z l M d (pc + 3) ls st σ Q) : Go z l M d pc ls (.int x :: st) σ Q := by
  by_cases h : 0 ≤ x
  · exact go_lift0 (fun p e R s m args below meth c la H locs cells slots Q' X hl hr kk => lv_if_ge X.1 X.2.1 hd ht (fun _ => kk) (fun q => absurd h q)) (kt h)
  · exact go_lift0 (fun p e R s m args below meth c la H locs cells slots Q' X hl hr kk => lv_if_ge X.1 X.2.1 hd ht (fun q => absurd q h) (fun _ => kk)) (kf h)
theorem go_icmp_ge {x y : Int32} {off : Int} {tgt : Nat} (ht : (pc : Int) + off = (tgt : Int)) (hd : decode M.cc pc = .ok (.if_icmp .ge off, 3)) (kt : y ≤ x → Go z l M d tgt ls st σ Q) (kf : ¬ y ≤ x → Go z l M d (pc + 3) ls st σ Q) : Go z l M d pc ls (.int y :: .int x :: st) σ Q := by
  by_cases h : y ≤ x
  · exact go_lift0 (fun p e R s m args below meth c la H locs cells slots Q' X hl hr kk => lv_icmp_ge X.1 X.2.1 hd ht (fun _ => kk) (fun q => absurd h q)) (kt h)
  · exact go_lift0 (fun p e R s m args below meth c la H locs cells slots Q' X hl hr kk => lv_icmp_ge X.1 X.2.1 hd ht (fun q => absurd q h) (fun _ => kk)) (kf h)
theorem go_if_gt {x : Int32} {off : Int} {tgt : Nat} (ht : (pc : Int) + off = (tgt : Int)) (hd : decode M.cc pc = .ok (.ifCond .gt off, 3)) (kt : 0 < x → Go z l M d tgt ls st σ Q) (kf : ¬ 0 < x → Go z l M d (pc + 3) ls st σ Q) : Go z l M d pc ls (.int x :: st) σ Q := by
  by_cases h : 0 < x
  · exact go_lift0 (fun p e R s m args below meth c la H locs cells slots Q' X hl hr kk => lv_if_gt X.1 X.2.1 hd ht (fun _ => kk) (fun q => absurd h q)) (kt h)
  · exact go_lift0 (fun p e R s m args below meth c la H locs cells slots Q' X hl hr kk => lv_if_gt X.1 X.2.1 hd ht (fun q => absurd q h) (fun _ => kk)) (kf h)
theorem go_icmp_gt {x y : Int32} {off : Int} {tgt : Nat} (ht : (pc : Int) + off = (tgt : Int)) (hd : decode M.cc pc = .ok (.if_icmp .gt off, 3)) (kt : y < x → Go z l M d tgt ls st σ Q) (kf : ¬ y < x → Go z l M d (pc + 3) ls st σ Q) : Go z l M d pc ls (.int y :: .int x :: st) σ Q := by
  by_cases h : y < x
  · exact go_lift0 (fun p e R s m args below meth c la H locs cells slots Q' X hl hr kk => lv_icmp_gt X.1 X.2.1 hd ht (fun _ => kk) (fun q => absurd h q)) (kt h)
  · exact go_lift0 (fun p e R s m args below meth c la H locs cells slots Q' X hl hr kk => lv_icmp_gt X.1 X.2.1 hd ht (fun q => absurd q h) (fun _ => kk)) (kf h)
theorem go_if_le {x : Int32} {off : Int} {tgt : Nat} (ht : (pc : Int) + off = (tgt : Int)) (hd : decode M.cc pc = .ok (.ifCond .le off, 3)) (kt : x ≤ 0 → Go z l M d tgt ls st σ Q) (kf : ¬ x ≤ 0 → Go z l M d (pc + 3) ls st σ Q) : Go z l M d pc ls (.int x :: st) σ Q := by
  by_cases h : x ≤ 0
  · exact go_lift0 (fun p e R s m args below meth c la H locs cells slots Q' X hl hr kk => lv_if_le X.1 X.2.1 hd ht (fun _ => kk) (fun q => absurd h q)) (kt h)
  · exact go_lift0 (fun p e R s m args below meth c la H locs cells slots Q' X hl hr kk => lv_if_le X.1 X.2.1 hd ht (fun q => absurd q h) (fun _ => kk)) (kf h)
theorem go_icmp_le {x y : Int32} {off : Int} {tgt : Nat} (ht : (pc : Int) + off = (tgt : Int)) (hd : decode M.cc pc = .ok (.if_icmp .le off, 3)) (kt : x ≤ y → Go z l M d tgt ls st σ Q) (kf : ¬ x ≤ y → Go z l M d (pc + 3) ls st σ Q) : Go z l M d pc ls (.int y :: .int x :: st) σ Q := by
  by_cases h : x ≤ y
  · exact go_lift0 (fun p e R s m args below meth c la H locs cells slots Q' X hl hr kk => lv_icmp_le X.1 X.2.1 hd ht (fun _ => kk) (fun q => absurd h q)) (kt h)
  · exact go_lift0 (fun p e R s m args below meth c la H locs cells slots Q' X hl hr kk => lv_icmp_le X.1 X.2.1 hd ht (fun q => absurd q h) (fun _ => kk)) (kf h)
theorem go_goto {off : Int} {tgt : Nat} (ht : (pc : Int) + off = (tgt : Int)) (hd : decode M.cc pc = .ok (.goto off, 3)) (k : Go z l M d tgt ls st σ Q) : Go z l M d pc ls st σ Q :=
  go_lift0 (fun p e R s m args below meth c la H locs cells slots Q' X hl hr kk => lv_goto X.1 X.2.1 hd ht kk) k
theorem go_ifnull {x : Option Nat} {off : Int} {tgt : Nat} (ht : (pc : Int) + off = (tgt : Int)) (hd : decode M.cc pc = .ok (.ifnull off, 3)) (kt : x = none → Go z l M d tgt ls st σ Q) (kf : ∀ a, x = some a → Go z l M d (pc + 3) ls st σ Q) : Go z l M d pc ls (va_rf x :: st) σ Q :=
  match x, kt, kf with
  | none, kt, _ => go_lift0 (fun p e R s m args below meth c la H locs cells slots Q' X hl hr kk => lv_ifnullN X.1 X.2.1 hd ht kk) (kt rfl)
  | some a, _, kf => go_lift0 (fun p e R s m args below meth c la H locs cells slots Q' X hl hr kk => lv_ifnull X.1 X.2.1 hd kk) (kf a rfl)
theorem go_ifnonnull {x : Option Nat} {off : Int} {tgt : Nat} (ht : (pc : Int) + off = (tgt : Int)) (hd : decode M.cc pc = .ok (.ifnonnull off, 3)) (kt : ∀ a, x = some a → Go z l M d tgt ls st σ Q) (kf : x = none → Go z l M d (pc + 3) ls st σ Q) : Go z l M d pc ls (va_rf x :: st) σ Q :=
  match x, kt, kf with
  | none, _, kf => go_lift0 (fun p e R s m args below meth c la H locs cells slots Q' X hl hr kk => lv_ifnonnullN X.1 X.2.1 hd kk) (kf rfl)
  | some a, kt, _ => go_lift0 (fun p e R s m args below meth c la H locs cells slots Q' X hl hr kk => lv_ifnonnull X.1 X.2.1 hd ht kk) (kt a rfl)
theorem go_acmp_eq {x y : Option Nat} {off : Int} {tgt : Nat} (ht : (pc : Int) + off = (tgt : Int)) (hd : decode M.cc pc = .ok (.if_acmp .eq off, 3)) (kt : x = y → Go z l M d tgt ls st σ Q) (kf : ¬ x = y → Go z l M d (pc + 3) ls st σ Q) : Go z l M d pc ls (va_rf y :: va_rf x :: st) σ Q := by
  by_cases h : x = y
  · exact go_lift0 (fun p e R s m args below meth c la H locs cells slots Q' X hl hr kk => lv_acmp_eq X.1 X.2.1 hd ht (fun _ => kk) (fun q => absurd h q)) (kt h)
  · exact go_lift0 (fun p e R s m args below meth c la H locs cells slots Q' X hl hr kk => lv_acmp_eq X.1 X.2.1 hd ht (fun q => absurd q h) (fun _ => kk)) (kf h)
theorem go_acmp_ne {x y : Option Nat} {off : Int} {tgt : Nat} (ht : (pc : Int) + off = (tgt : Int)) (hd : decode M.cc pc = .ok (.if_acmp .ne off, 3)) (kt : ¬ x = y → Go z l M d tgt ls st σ Q) (kf : x = y → Go z l M d (pc + 3) ls st σ Q) : Go z l M d pc ls (va_rf y :: va_rf x :: st) σ Q := by
  by_cases h : x = y
  · exact go_lift0 (fun p e R s m args below meth c la H locs cells slots Q' X hl hr kk => lv_acmp_ne X.1 X.2.1 hd ht (fun q => absurd h q) (fun _ => kk)) (kf h)
  · exact go_lift0 (fun p e R s m args below meth c la H locs cells slots Q' X hl hr kk => lv_acmp_ne X.1 X.2.1 hd ht (fun _ => kk) (fun q => absurd q h)) (kt h)
theorem go_lookup {dflt : Int} {ps : Array (Int × Int)} {len : Nat} {x : Int32} {off : Int} {tgt : Nat} (hp : (ps.toList.zip (ps.toList.drop 1)).all (fun (a, next) => a.1 < next.1) = true) (ho : Op.lookupswitch.offset ps.toList dflt x.toInt = off) (ht : (pc : Int) + off = (tgt : Int)) (hd : decode M.cc pc = .ok (.lookupswitch dflt ps, len)) (k : Go z l M d tgt ls st σ Q) : Go z l M d pc ls (.int x :: st) σ Q :=
  go_lift0 (fun p e R s m args below meth c la H locs cells slots Q' X hl hr kk => lv_lookup X.1 X.2.1 hd hp ho ht kk) k
theorem go_tableOut {dflt lo hi : Int} {offs : Array Int} {len : Nat} {x : Int32} {tgt : Nat} (h : x.toInt < lo ∨ hi < x.toInt) (ht : (pc : Int) + dflt = (tgt : Int)) (hd : decode M.cc pc = .ok (.tableswitch dflt lo hi offs, len)) (k : Go z l M d tgt ls st σ Q) : Go z l M d pc ls (.int x :: st) σ Q :=
  go_lift0 (fun p e R s m args below meth c la H locs cells slots Q' X hl hr kk => lv_tableOut X.1 X.2.1 hd h ht kk) k
theorem go_tableIn {dflt lo hi : Int} {offs : Array Int} {len : Nat} {x : Int32} {off : Int} {tgt : Nat} (h1 : ¬ x.toInt < lo) (h2 : ¬ hi < x.toInt) (ho : offs[(x.toInt - lo).toNat]? = some off) (ht : (pc : Int) + off = (tgt : Int)) (hd : decode M.cc pc = .ok (.tableswitch dflt lo hi offs, len)) (k : Go z l M d tgt ls st σ Q) : Go z l M d pc ls (.int x :: st) σ Q :=
  go_lift0 (fun p e R s m args below meth c la H locs cells slots Q' X hl hr kk => lv_tableIn X.1 X.2.1 hd h1 h2 ho ht kk) k
/-- a table of jumps: every place of it, and the way out -/
theorem go_table {dflt lo hi : Int} {offs : Array Int} {len dt : Nat} {x : Int32} (hd : decode M.cc pc = .ok (.tableswitch dflt lo hi offs, len)) (hsz : (offs.size : Int) = hi - lo + 1) (hdt : (pc : Int) + dflt = (dt : Int))
    (kd : (x.toInt < lo ∨ hi < x.toInt) → Go z l M d dt ls st σ Q) (ki : ∀ (j : Nat) (off : Int), offs[j]? = some off → x.toInt = lo + j → ∃ tgt : Nat, (pc : Int) + off = (tgt : Int) ∧ Go z l M d tgt ls st σ Q) : Go z l M d pc ls (.int x :: st) σ Q := by
  by_cases h : x.toInt < lo ∨ hi < x.toInt
  · exact go_tableOut h hdt hd (kd h)
  · have h1 : ¬ x.toInt < lo := fun q => h (Or.inl q)
    have h2 : ¬ hi < x.toInt := fun q => h (Or.inr q)
    have hlt : (x.toInt - lo).toNat < offs.size := by omega
    obtain ⟨tgt, e1, k⟩ := ki (x.toInt - lo).toNat offs[(x.toInt - lo).toNat] (Array.getElem?_eq_getElem hlt) (by omega)
    exact go_tableIn h1 h2 (Array.getElem?_eq_getElem hlt) e1 hd k
theorem gj_ret {o : Outcome} (h : ∀ (p : Program) (e : Env) (R : Room) (s : State) (m : MethodId) (args : Array Value) (below : List Frame) (meth : Method) (c : Code) (la : Array Slot) (H : Heap) (locs : List Loc) (cells slots : Nat), gj_Cx z l M d p R s m meth c → (∀ q ∈ locs, z.heap.size ≤ q.base) →
      W p l e R s m args below meth c H locs cells slots (MQ below (fun _ _ o' t => o' = o ∧ t.heap = H) args s cells slots (fun q => z.heap.size ≤ q)) (F0 m pc la st)) (hq : Q o σ) : Go z l M d pc ls st σ Q := fun hw =>
  ⟨o, σ, fun p e R s m args below meth c X la H locs cells slots mc ms hl hr hf e1 e2 e3 e4 T hT XT => by
    obtain ⟨t, a1, o', b1, b2, ⟨b3, b3'⟩, L, b4, b5⟩ := h p e R s m args below meth c la H locs cells slots X hf T hT XT
    subst b3
    have hm1 : mc = cells := by omega
    have hm2 : ms = slots := by omega
    subst hm1; subst hm2
    exact ⟨t, a1, b1, b2, by rw [b3']; exact hr, b4.2.1, L, b4.2.2, b5⟩, hw, hp_Le.rfl' σ, hq⟩
theorem go_iret {v : Int32} {ty : FieldType} (hr : M.ret = some ty) (hn : narrow ty (.int v) = .int v) (hd : decode M.cc pc = .ok (.ireturn, 1)) (hq : Q (.returned (some (.int v))) σ) : Go z l M d pc ls [.int v] σ Q :=
  gj_ret (fun p e R s m args below meth c la H locs cells slots X hf => W.zret X.1 X.2.1 (X.2.2.1.trans hr) hn (fun t ht _ => ⟨rfl, ht⟩) hf hd X.2.2.2.1) hq
theorem go_lret {v : Int64} (hr : M.ret = some .long) (hd : decode M.cc pc = .ok (.lreturn, 1)) (hq : Q (.returned (some (.long v))) σ) : Go z l M d pc ls [.long v] σ Q :=
  gj_ret (fun p e R s m args below meth c la H locs cells slots X hf => W.lret X.1 X.2.1 (X.2.2.1.trans hr) (fun t ht _ => ⟨rfl, ht⟩) hf hd X.2.2.2.1) hq
theorem go_vret (hr : M.ret = none) (hd : decode M.cc pc = .ok (.return_, 1)) (hq : Q (.returned none) σ) : Go z l M d pc ls [] σ Q :=
  gj_ret (fun p e R s m args below meth c la H locs cells slots X hf => W.vret X.1 X.2.1 (X.2.2.1.trans hr) (fun t ht _ => ⟨rfl, ht⟩) hf hd X.2.2.2.1) hq
theorem go_aret {v : Option Nat} {rt : FieldType} (hr : M.ret = some rt) (hrt : (∃ n, rt = .object n) ∨ ∃ t, rt = .array t) (hd : decode M.cc pc = .ok (.areturn, 1)) (hq : Q (.returned (some (va_rf v))) σ) : Go z l M d pc ls [va_rf v] σ Q :=
  gj_ret (fun p e R s m args below meth c la H locs cells slots X hf => W.aret X.1 X.2.1 (X.2.2.1.trans hr) hrt (by cases v with
    | none => exact Or.inl rfl
    | some a => exact Or.inr ⟨a, rfl⟩) (fun t ht _ => ⟨rfl, ht⟩) hf hd X.2.2.2.1) hq
/-- a static field, by what it held at the law's start -/
theorem gj_Zs {p : Program} {R : Room} {s : State} {m : MethodId} {meth : Method} {c : Code} {H : Heap} {C n dd : String} {v : Value} (X : gj_Cx z l M d p R s m meth c) (hr : hp_Rel z σ H) (hZ : va_Z C n dd v (fun q => z.heap.size ≤ q) z z.heap) : va_Z C n dd v (fun q => z.heap.size ≤ q) s H :=
  va_Z.moved X.warm.alike (hZ.kept fun a ha _ => hr.2.2.1 a ha)
theorem go_gets {C n dd : String} {v : Value} {index : Nat} (hw : Cond.fieldLink M.y.cls index C n dd ∈ tw_all) (hd : decode M.cc pc = .ok (.getstatic index, 3)) (hZ : gj_Zok z → va_Z C n dd v (fun q => z.heap.size ≤ q) z z.heap) (k : Go z l M d (pc + 3) ls (v :: st) σ Q) : Go z l M d pc ls st σ Q :=
  go_lift0 (fun p e R s m args below meth c la H locs cells slots Q' X hl hr kk => by
    obtain ⟨cf, kf, fi, f, a, cell, h1, h2, h3, h4, h5, h6, h7, h8⟩ := gj_Zs X hr (hZ X.zok)
    exact W.gets X.1 X.2.1 X.own (X.word hw args) h1 h2 h3 h4 h5 (fun e => by rw [e] at h6; cases h6) h7 (g := F0 m pc la st) rfl hd kk) k
end GjRows
