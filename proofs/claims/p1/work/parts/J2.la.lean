/-! The law's wrappers over any heap. Printed by wip/tools/layl.py. -/
set_option maxRecDepth 100000 in
theorem la_feed {z : State} {l : Launch} {d : Nat} {σ : Hp} {Q : Outcome → Hp → Prop} {x1 : Nat} {x2 : Int32} {x3 : Int32} {x4 : Int32} {x5 : Int32} {x6 : Int32} {x7 : Nat} (t1 : σ.tag x1 = 1) (k1 : Go z l mt_T_feed (d + 8) 0 [.ref x1, .int x2, .int x3, .int x4, .int x5, .int x6] [] σ (fun o σ1 => hp_Le σ σ1 → gj_next z l mt_A_feed (d + 9) 11 [.ref x1, .int x2, .int x3, .int x4, .int x5, .int x6, .ref x7, .retAddr 0] [.int 0, .ref x7] Q o σ1)) : Go z l mt_A_feed (d + 9) 0 [.ref x1, .int x2, .int x3, .int x4, .int x5, .int x6, .ref x7, .retAddr 0] [] σ Q :=
  go_aload rfl dd_A_feed_0 (go_iconst (v := 0) (by decide +kernel) dd_A_feed_2 (go_aload_n rfl rfl dd_A_feed_3 (go_iload_n rfl rfl dd_A_feed_4 (go_iload_n rfl rfl dd_A_feed_5 (go_iload_n rfl rfl dd_A_feed_6 (go_iload rfl dd_A_feed_7 (go_iload rfl dd_A_feed_9 (go_call (M' := mt_T_feed) (d' := d + 8) (As := [.ref x1, .int x2, .int x3, .int x4, .int x5, .int x6]) (rest := [.int 0, .ref x7]) (gj_lkV (t := 1) mw_235 mw_236 mw_237 cw_T_feed pl_T_feed np_T_feed dd_A_feed_11 t1 (by decide)) cw_T_feed mw_1 pn_T_feed (Nat.le_of_ble_eq_true rfl) (ls0 := [.ref x1, .int x2, .int x3, .int x4, .int x5, .int x6]) rfl (Nat.lt_succ_self _) (Nat.le_trans (gj_cats _) (Nat.le_of_ble_eq_true rfl)) (by decide) (k1)))))))))

set_option maxRecDepth 100000 in
theorem la_feed_14 {z : State} {l : Launch} {d : Nat} {σ : Hp} {Q : Outcome → Hp → Prop} {v0 : Nat} {v1 : Int32} {v2 : Int32} {v3 : Int32} {v4 : Int32} {v5 : Int32} {v6 : Nat} {s0 : Int32} {s1 : Int32} {s2 : Nat} (t1 : σ.tag s2 = 23) (z2 : z.heap.size ≤ s2) (i3 : vp_in s1 (σ.len s2)) (k1 : Q (.returned (some (.int 0))) (σ.rowJ s2 (va_up (σ.eJ s2) s1.toNatClampNeg s0.toInt64))) : Go z l mt_A_feed (d + 9) 14 [.ref v0, .int v1, .int v2, .int v3, .int v4, .int v5, .ref v6, .retAddr 0] [.int s0, .int s1, .ref s2] σ Q :=
  go_i2l dd_A_feed_14 (go_last (t := 23) rfl (by decide) dd_A_feed_15 t1 z2 i3 (go_goto (tgt := 23) (by decide) dd_A_feed_16 (go_iconst (v := 0) (by decide +kernel) dd_A_feed_23 (go_iret (ty := .int) rfl rfl dd_A_feed_24 (k1)))))

set_option maxRecDepth 100000 in
theorem la_feed_19 {z : State} {l : Launch} {d : Nat} {σ : Hp} {Q : Outcome → Hp → Prop} {e : Nat} (k1 : Q (.returned (some (.int 1))) σ) : Go z l mt_A_feed (d + 9) 19 [.retAddr 0, .retAddr 0, .retAddr 0, .retAddr 0, .retAddr 0, .retAddr 0, .retAddr 0, .retAddr 0] [.ref e] σ Q :=
  go_astore (by decide) (ls2 := [.retAddr 0, .retAddr 0, .retAddr 0, .retAddr 0, .retAddr 0, .retAddr 0, .retAddr 0, .ref e]) rfl dd_A_feed_19 (go_iconst (v := 1) (by decide +kernel) dd_A_feed_21 (go_iret (ty := .int) rfl rfl dd_A_feed_22 (k1)))

set_option maxRecDepth 100000 in
theorem la_end {z : State} {l : Launch} {d : Nat} {σ : Hp} {Q : Outcome → Hp → Prop} {x1 : Nat} {x2 : Int32} {x3 : Nat} (t1 : σ.tag x1 = 1) (k1 : Go z l mt_T_end (d + 8) 0 [.ref x1, .int x2] [] σ (fun o σ1 => hp_Le σ σ1 → gj_next z l mt_A_end (d + 9) 4 [.ref x1, .int x2, .ref x3, .retAddr 0] [.int 0, .ref x3] Q o σ1)) : Go z l mt_A_end (d + 9) 0 [.ref x1, .int x2, .ref x3, .retAddr 0] [] σ Q :=
  go_aload_n rfl rfl dd_A_end_0 (go_iconst (v := 0) (by decide +kernel) dd_A_end_1 (go_aload_n rfl rfl dd_A_end_2 (go_iload_n rfl rfl dd_A_end_3 (go_call (M' := mt_T_end) (d' := d + 8) (As := [.ref x1, .int x2]) (rest := [.int 0, .ref x3]) (gj_lkV (t := 1) mw_314 mw_315 mw_316 cw_T_end pl_T_end np_T_end dd_A_end_4 t1 (by decide)) cw_T_end mw_1 pn_T_end (Nat.le_of_ble_eq_true rfl) (ls0 := [.ref x1, .int x2]) rfl (Nat.lt_succ_self _) (Nat.le_trans (gj_cats _) (Nat.le_of_ble_eq_true rfl)) (by decide) (k1)))))

set_option maxRecDepth 100000 in
theorem la_end_7 {z : State} {l : Launch} {d : Nat} {σ : Hp} {Q : Outcome → Hp → Prop} {v0 : Nat} {v1 : Int32} {v2 : Nat} {s0 : Int32} {s1 : Int32} {s2 : Nat} (t1 : σ.tag s2 = 23) (z2 : z.heap.size ≤ s2) (i3 : vp_in s1 (σ.len s2)) (k1 : Q (.returned (some (.int 0))) (σ.rowJ s2 (va_up (σ.eJ s2) s1.toNatClampNeg s0.toInt64))) : Go z l mt_A_end (d + 9) 7 [.ref v0, .int v1, .ref v2, .retAddr 0] [.int s0, .int s1, .ref s2] σ Q :=
  go_i2l dd_A_end_7 (go_last (t := 23) rfl (by decide) dd_A_end_8 t1 z2 i3 (go_goto (tgt := 15) (by decide) dd_A_end_9 (go_iconst (v := 0) (by decide +kernel) dd_A_end_15 (go_iret (ty := .int) rfl rfl dd_A_end_16 (k1)))))

set_option maxRecDepth 100000 in
theorem la_end_12 {z : State} {l : Launch} {d : Nat} {σ : Hp} {Q : Outcome → Hp → Prop} {e : Nat} (k1 : Q (.returned (some (.int 1))) σ) : Go z l mt_A_end (d + 9) 12 [.retAddr 0, .retAddr 0, .retAddr 0, .retAddr 0] [.ref e] σ Q :=
  go_astore_n rfl (by decide) (ls2 := [.retAddr 0, .retAddr 0, .retAddr 0, .ref e]) rfl dd_A_end_12 (go_iconst (v := 1) (by decide +kernel) dd_A_end_13 (go_iret (ty := .int) rfl rfl dd_A_end_14 (k1)))

set_option maxRecDepth 100000 in
theorem la_clear {z : State} {l : Launch} {d : Nat} {σ : Hp} {Q : Outcome → Hp → Prop} {x1 : Nat} {x2 : Int32} {x3 : Int32} (t1 : σ.tag x1 = 1) (k1 : Go z l mt_T_clear (d + 8) 0 [.ref x1, .int x2, .int x3] [] σ (fun o σ1 => hp_Le σ σ1 → gj_next z l mt_A_clear (d + 9) 3 [.ref x1, .int x2, .int x3, .retAddr 0] [] Q o σ1)) : Go z l mt_A_clear (d + 9) 0 [.ref x1, .int x2, .int x3, .retAddr 0] [] σ Q :=
  go_aload_n rfl rfl dd_A_clear_0 (go_iload_n rfl rfl dd_A_clear_1 (go_iload_n rfl rfl dd_A_clear_2 (go_call (M' := mt_T_clear) (d' := d + 8) (As := [.ref x1, .int x2, .int x3]) (rest := []) (gj_lkV (t := 1) mw_339 mw_340 mw_341 cw_T_clear pl_T_clear np_T_clear dd_A_clear_3 t1 (by decide)) cw_T_clear mw_1 pn_T_clear (Nat.le_of_ble_eq_true rfl) (ls0 := [.ref x1, .int x2, .int x3]) rfl (Nat.lt_succ_self _) (Nat.le_trans (gj_cats _) (Nat.le_of_ble_eq_true rfl)) (by decide) (k1))))

set_option maxRecDepth 100000 in
theorem la_clear_6 {z : State} {l : Launch} {d : Nat} {σ : Hp} {Q : Outcome → Hp → Prop} {v0 : Nat} {v1 : Int32} {v2 : Int32} (k1 : Q (.returned (some (.int 0))) σ) : Go z l mt_A_clear (d + 9) 6 [.ref v0, .int v1, .int v2, .retAddr 0] [] σ Q :=
  go_goto (tgt := 12) (by decide) dd_A_clear_6 (go_iconst (v := 0) (by decide +kernel) dd_A_clear_12 (go_iret (ty := .int) rfl rfl dd_A_clear_13 (k1)))

set_option maxRecDepth 100000 in
theorem la_clear_9 {z : State} {l : Launch} {d : Nat} {σ : Hp} {Q : Outcome → Hp → Prop} {e : Nat} (k1 : Q (.returned (some (.int 1))) σ) : Go z l mt_A_clear (d + 9) 9 [.retAddr 0, .retAddr 0, .retAddr 0, .retAddr 0] [.ref e] σ Q :=
  go_astore_n rfl (by decide) (ls2 := [.retAddr 0, .retAddr 0, .retAddr 0, .ref e]) rfl dd_A_clear_9 (go_iconst (v := 1) (by decide +kernel) dd_A_clear_10 (go_iret (ty := .int) rfl rfl dd_A_clear_11 (k1)))

set_option maxRecDepth 100000 in
theorem la_set {z : State} {l : Launch} {d : Nat} {σ : Hp} {Q : Outcome → Hp → Prop} {x1 : Nat} {x2 : Int32} {x3 : Int64} (t1 : σ.tag x1 = 1) (k1 : Go z l mt_T_set (d + 8) 0 [.ref x1, .int x2, .long x3, .retAddr 0] [] σ (fun o σ1 => hp_Le σ σ1 → gj_next z l mt_A_set (d + 9) 3 [.ref x1, .int x2, .long x3, .retAddr 0, .retAddr 0] [] Q o σ1)) : Go z l mt_A_set (d + 9) 0 [.ref x1, .int x2, .long x3, .retAddr 0, .retAddr 0] [] σ Q :=
  go_aload_n rfl rfl dd_A_set_0 (go_iload_n rfl rfl dd_A_set_1 (go_lload_n rfl rfl dd_A_set_2 (go_call (M' := mt_T_set) (d' := d + 8) (As := [.ref x1, .int x2, .long x3]) (rest := []) (gj_lkV (t := 1) mw_354 mw_355 mw_356 cw_T_set pl_T_set np_T_set dd_A_set_3 t1 (by decide)) cw_T_set mw_1 pn_T_set (Nat.le_of_ble_eq_true rfl) (ls0 := [.ref x1, .int x2, .long x3, .retAddr 0]) rfl (Nat.lt_succ_self _) (Nat.le_trans (gj_cats _) (Nat.le_of_ble_eq_true rfl)) (by decide) (k1))))

set_option maxRecDepth 100000 in
theorem la_set_6 {z : State} {l : Launch} {d : Nat} {σ : Hp} {Q : Outcome → Hp → Prop} {v0 : Nat} {v1 : Int32} {v2 : Int64} (k1 : Q (.returned (some (.int 0))) σ) : Go z l mt_A_set (d + 9) 6 [.ref v0, .int v1, .long v2, .retAddr 0, .retAddr 0] [] σ Q :=
  go_goto (tgt := 13) (by decide) dd_A_set_6 (go_iconst (v := 0) (by decide +kernel) dd_A_set_13 (go_iret (ty := .int) rfl rfl dd_A_set_14 (k1)))

set_option maxRecDepth 100000 in
theorem la_set_9 {z : State} {l : Launch} {d : Nat} {σ : Hp} {Q : Outcome → Hp → Prop} {e : Nat} (k1 : Q (.returned (some (.int 1))) σ) : Go z l mt_A_set (d + 9) 9 [.retAddr 0, .retAddr 0, .retAddr 0, .retAddr 0, .retAddr 0] [.ref e] σ Q :=
  go_astore (by decide) (ls2 := [.retAddr 0, .retAddr 0, .retAddr 0, .retAddr 0, .ref e]) rfl dd_A_set_9 (go_iconst (v := 1) (by decide +kernel) dd_A_set_11 (go_iret (ty := .int) rfl rfl dd_A_set_12 (k1)))

set_option maxRecDepth 100000 in
theorem la_text {z : State} {l : Launch} {d : Nat} {σ : Hp} {Q : Outcome → Hp → Prop} {x1 : Nat} {x2 : Int32} (t1 : σ.tag x1 = 1) (k1 : Go z l mt_T_text (d + 8) 0 [.ref x1, .int x2, .retAddr 0] [] σ (fun o σ1 => hp_Le σ σ1 → gj_next z l mt_A_text (d + 9) 2 [.ref x1, .int x2, .retAddr 0] [] Q o σ1)) : Go z l mt_A_text (d + 9) 0 [.ref x1, .int x2, .retAddr 0] [] σ Q :=
  go_aload_n rfl rfl dd_A_text_0 (go_iload_n rfl rfl dd_A_text_1 (go_call (M' := mt_T_text) (d' := d + 8) (As := [.ref x1, .int x2]) (rest := []) (gj_lkV (t := 1) mw_370 mw_371 mw_372 cw_T_text pl_T_text np_T_text dd_A_text_2 t1 (by decide)) cw_T_text mw_1 pn_T_text (Nat.le_of_ble_eq_true rfl) (ls0 := [.ref x1, .int x2, .retAddr 0]) rfl (Nat.lt_succ_self _) (Nat.le_trans (gj_cats _) (Nat.le_of_ble_eq_true rfl)) (by decide) (k1)))

set_option maxRecDepth 100000 in
theorem la_text_5 {z : State} {l : Launch} {d : Nat} {σ : Hp} {Q : Outcome → Hp → Prop} {v0 : Nat} {v1 : Int32} (k1 : Q (.returned (some (.int 0))) σ) : Go z l mt_A_text (d + 9) 5 [.ref v0, .int v1, .retAddr 0] [] σ Q :=
  go_goto (tgt := 11) (by decide) dd_A_text_5 (go_iconst (v := 0) (by decide +kernel) dd_A_text_11 (go_iret (ty := .int) rfl rfl dd_A_text_12 (k1)))

set_option maxRecDepth 100000 in
theorem la_text_8 {z : State} {l : Launch} {d : Nat} {σ : Hp} {Q : Outcome → Hp → Prop} {e : Nat} (k1 : Q (.returned (some (.int 1))) σ) : Go z l mt_A_text (d + 9) 8 [.retAddr 0, .retAddr 0, .retAddr 0] [.ref e] σ Q :=
  go_astore_n rfl (by decide) (ls2 := [.retAddr 0, .retAddr 0, .ref e]) rfl dd_A_text_8 (go_iconst (v := 1) (by decide +kernel) dd_A_text_9 (go_iret (ty := .int) rfl rfl dd_A_text_10 (k1)))

set_option maxRecDepth 100000 in
theorem la_read {z : State} {l : Launch} {d : Nat} {σ : Hp} {Q : Outcome → Hp → Prop} {x1 : Nat} {x2 : Nat} (t1 : σ.tag x1 = 1) (k1 : Go z l mt_T_read (d + 8) 0 [.ref x1, .retAddr 0, .retAddr 0] [] σ (fun o σ1 => hp_Le σ σ1 → gj_next z l mt_A_read (d + 9) 3 [.ref x1, .ref x2, .retAddr 0] [.int 0, .ref x2] Q o σ1)) : Go z l mt_A_read (d + 9) 0 [.ref x1, .ref x2, .retAddr 0] [] σ Q :=
  go_aload_n rfl rfl dd_A_read_0 (go_iconst (v := 0) (by decide +kernel) dd_A_read_1 (go_aload_n rfl rfl dd_A_read_2 (go_call (M' := mt_T_read) (d' := d + 8) (As := [.ref x1]) (rest := [.int 0, .ref x2]) (gj_lkV (t := 1) mw_394 mw_395 mw_396 cw_T_read pl_T_read np_T_read dd_A_read_3 t1 (by decide)) cw_T_read mw_1 pn_T_read (Nat.le_of_ble_eq_true rfl) (ls0 := [.ref x1, .retAddr 0, .retAddr 0]) rfl (Nat.lt_succ_self _) (Nat.le_trans (gj_cats _) (Nat.le_of_ble_eq_true rfl)) (by decide) (k1))))

set_option maxRecDepth 100000 in
theorem la_read_6 {z : State} {l : Launch} {d : Nat} {σ : Hp} {Q : Outcome → Hp → Prop} {v0 : Nat} {v1 : Nat} {s0 : Int32} {s1 : Int32} {s2 : Nat} (t1 : σ.tag s2 = 23) (z2 : z.heap.size ≤ s2) (i3 : vp_in s1 (σ.len s2)) (k1 : Q (.returned (some (.int 0))) (σ.rowJ s2 (va_up (σ.eJ s2) s1.toNatClampNeg s0.toInt64))) : Go z l mt_A_read (d + 9) 6 [.ref v0, .ref v1, .retAddr 0] [.int s0, .int s1, .ref s2] σ Q :=
  go_i2l dd_A_read_6 (go_last (t := 23) rfl (by decide) dd_A_read_7 t1 z2 i3 (go_goto (tgt := 14) (by decide) dd_A_read_8 (go_iconst (v := 0) (by decide +kernel) dd_A_read_14 (go_iret (ty := .int) rfl rfl dd_A_read_15 (k1)))))

set_option maxRecDepth 100000 in
theorem la_read_11 {z : State} {l : Launch} {d : Nat} {σ : Hp} {Q : Outcome → Hp → Prop} {e : Nat} (k1 : Q (.returned (some (.int 1))) σ) : Go z l mt_A_read (d + 9) 11 [.retAddr 0, .retAddr 0, .retAddr 0] [.ref e] σ Q :=
  go_astore_n rfl (by decide) (ls2 := [.retAddr 0, .retAddr 0, .ref e]) rfl dd_A_read_11 (go_iconst (v := 1) (by decide +kernel) dd_A_read_12 (go_iret (ty := .int) rfl rfl dd_A_read_13 (k1)))

set_option maxRecDepth 100000 in
theorem la_kind {z : State} {l : Launch} {d : Nat} {σ : Hp} {Q : Outcome → Hp → Prop} {x1 : Nat} {x2 : Nat} (t1 : σ.tag x1 = 1) (k1 : Go z l mt_T_kind (d + 8) 0 [.ref x1] [] σ (fun o σ1 => hp_Le σ σ1 → gj_next z l mt_A_kind (d + 9) 3 [.ref x1, .ref x2, .retAddr 0] [.int 0, .ref x2] Q o σ1)) : Go z l mt_A_kind (d + 9) 0 [.ref x1, .ref x2, .retAddr 0] [] σ Q :=
  go_aload_n rfl rfl dd_A_kind_0 (go_iconst (v := 0) (by decide +kernel) dd_A_kind_1 (go_aload_n rfl rfl dd_A_kind_2 (go_call (M' := mt_T_kind) (d' := d + 8) (As := [.ref x1]) (rest := [.int 0, .ref x2]) (gj_lkV (t := 1) mw_799 mw_800 mw_801 cw_T_kind pl_T_kind np_T_kind dd_A_kind_3 t1 (by decide)) cw_T_kind mw_1 pn_T_kind (Nat.le_of_ble_eq_true rfl) (ls0 := [.ref x1]) rfl (Nat.lt_succ_self _) (Nat.le_trans (gj_cats _) (Nat.le_of_ble_eq_true rfl)) (by decide) (k1))))

set_option maxRecDepth 100000 in
theorem la_kind_6 {z : State} {l : Launch} {d : Nat} {σ : Hp} {Q : Outcome → Hp → Prop} {v0 : Nat} {v1 : Nat} {s0 : Int32} {s1 : Int32} {s2 : Nat} (t1 : σ.tag s2 = 23) (z2 : z.heap.size ≤ s2) (i3 : vp_in s1 (σ.len s2)) (k1 : Q (.returned (some (.int 0))) (σ.rowJ s2 (va_up (σ.eJ s2) s1.toNatClampNeg s0.toInt64))) : Go z l mt_A_kind (d + 9) 6 [.ref v0, .ref v1, .retAddr 0] [.int s0, .int s1, .ref s2] σ Q :=
  go_i2l dd_A_kind_6 (go_last (t := 23) rfl (by decide) dd_A_kind_7 t1 z2 i3 (go_goto (tgt := 17) (by decide) dd_A_kind_8 (go_iconst (v := 0) (by decide +kernel) dd_A_kind_17 (go_iret (ty := .int) rfl rfl dd_A_kind_18 (k1)))))

set_option maxRecDepth 100000 in
theorem la_kind_11 {z : State} {l : Launch} {d : Nat} {σ : Hp} {Q : Outcome → Hp → Prop} {e : Nat} (k1 : Q (.returned (some (.int 1))) σ) : Go z l mt_A_kind (d + 9) 11 [.retAddr 0, .retAddr 0, .retAddr 0] [.ref e] σ Q :=
  go_astore_n rfl (by decide) (ls2 := [.retAddr 0, .retAddr 0, .ref e]) rfl dd_A_kind_11 (go_iconst (v := 1) (by decide +kernel) dd_A_kind_12 (go_iret (ty := .int) rfl rfl dd_A_kind_13 (k1)))

set_option maxRecDepth 100000 in
theorem la_kind_14 {z : State} {l : Launch} {d : Nat} {σ : Hp} {Q : Outcome → Hp → Prop} {e : Nat} (k1 : Q (.returned (some (.int 2))) σ) : Go z l mt_A_kind (d + 9) 14 [.retAddr 0, .retAddr 0, .retAddr 0] [.ref e] σ Q :=
  go_astore_n rfl (by decide) (ls2 := [.retAddr 0, .retAddr 0, .ref e]) rfl dd_A_kind_14 (go_iconst (v := 2) (by decide +kernel) dd_A_kind_15 (go_iret (ty := .int) rfl rfl dd_A_kind_16 (k1)))

set_option maxRecDepth 100000 in
theorem la_work {z : State} {l : Launch} {d : Nat} {σ : Hp} {Q : Outcome → Hp → Prop} {x1 : Nat} {x2 : Nat} (t1 : σ.tag x1 = 1) (k1 : Go z l mt_T_work (d + 8) 0 [.ref x1] [] σ (fun o σ1 => hp_Le σ σ1 → gj_next z l mt_A_work (d + 9) 3 [.ref x1, .ref x2, .retAddr 0] [.int 0, .ref x2] Q o σ1)) : Go z l mt_A_work (d + 9) 0 [.ref x1, .ref x2, .retAddr 0] [] σ Q :=
  go_aload_n rfl rfl dd_A_work_0 (go_iconst (v := 0) (by decide +kernel) dd_A_work_1 (go_aload_n rfl rfl dd_A_work_2 (go_call (M' := mt_T_work) (d' := d + 8) (As := [.ref x1]) (rest := [.int 0, .ref x2]) (gj_lkV (t := 1) mw_881 mw_882 mw_883 cw_T_work pl_T_work np_T_work dd_A_work_3 t1 (by decide)) cw_T_work mw_1 pn_T_work (Nat.le_of_ble_eq_true rfl) (ls0 := [.ref x1]) rfl (Nat.lt_succ_self _) (Nat.le_trans (gj_cats _) (Nat.le_of_ble_eq_true rfl)) (by decide) (k1))))

set_option maxRecDepth 100000 in
theorem la_work_6 {z : State} {l : Launch} {d : Nat} {σ : Hp} {Q : Outcome → Hp → Prop} {v0 : Nat} {v1 : Nat} {s0 : Int32} {s1 : Int32} {s2 : Nat} (t1 : σ.tag s2 = 23) (z2 : z.heap.size ≤ s2) (i3 : vp_in s1 (σ.len s2)) (k1 : Q (.returned (some (.int 0))) (σ.rowJ s2 (va_up (σ.eJ s2) s1.toNatClampNeg s0.toInt64))) : Go z l mt_A_work (d + 9) 6 [.ref v0, .ref v1, .retAddr 0] [.int s0, .int s1, .ref s2] σ Q :=
  go_i2l dd_A_work_6 (go_last (t := 23) rfl (by decide) dd_A_work_7 t1 z2 i3 (go_goto (tgt := 17) (by decide) dd_A_work_8 (go_iconst (v := 0) (by decide +kernel) dd_A_work_17 (go_iret (ty := .int) rfl rfl dd_A_work_18 (k1)))))

set_option maxRecDepth 100000 in
theorem la_work_11 {z : State} {l : Launch} {d : Nat} {σ : Hp} {Q : Outcome → Hp → Prop} {e : Nat} (k1 : Q (.returned (some (.int 1))) σ) : Go z l mt_A_work (d + 9) 11 [.retAddr 0, .retAddr 0, .retAddr 0] [.ref e] σ Q :=
  go_astore_n rfl (by decide) (ls2 := [.retAddr 0, .retAddr 0, .ref e]) rfl dd_A_work_11 (go_iconst (v := 1) (by decide +kernel) dd_A_work_12 (go_iret (ty := .int) rfl rfl dd_A_work_13 (k1)))

set_option maxRecDepth 100000 in
theorem la_work_14 {z : State} {l : Launch} {d : Nat} {σ : Hp} {Q : Outcome → Hp → Prop} {e : Nat} (k1 : Q (.returned (some (.int 2))) σ) : Go z l mt_A_work (d + 9) 14 [.retAddr 0, .retAddr 0, .retAddr 0] [.ref e] σ Q :=
  go_astore_n rfl (by decide) (ls2 := [.retAddr 0, .retAddr 0, .ref e]) rfl dd_A_work_14 (go_iconst (v := 2) (by decide +kernel) dd_A_work_15 (go_iret (ty := .int) rfl rfl dd_A_work_16 (k1)))

set_option maxRecDepth 100000 in
theorem la_keep {z : State} {l : Launch} {d : Nat} {σ : Hp} {Q : Outcome → Hp → Prop} {x1 : Nat} {x2 : Int32} {x3 : Nat} (t1 : σ.tag x1 = 1) (k1 : Go z l mt_T_keep (d + 8) 0 [.ref x1, .int x2] [] σ (fun o σ1 => hp_Le σ σ1 → gj_next z l mt_A_keep (d + 9) 4 [.ref x1, .int x2, .ref x3, .retAddr 0] [.int 0, .ref x3] Q o σ1)) : Go z l mt_A_keep (d + 9) 0 [.ref x1, .int x2, .ref x3, .retAddr 0] [] σ Q :=
  go_aload_n rfl rfl dd_A_keep_0 (go_iconst (v := 0) (by decide +kernel) dd_A_keep_1 (go_aload_n rfl rfl dd_A_keep_2 (go_iload_n rfl rfl dd_A_keep_3 (go_call (M' := mt_T_keep) (d' := d + 8) (As := [.ref x1, .int x2]) (rest := [.int 0, .ref x3]) (gj_lkV (t := 1) mw_1043 mw_1044 mw_1045 cw_T_keep pl_T_keep np_T_keep dd_A_keep_4 t1 (by decide)) cw_T_keep mw_1 pn_T_keep (Nat.le_of_ble_eq_true rfl) (ls0 := [.ref x1, .int x2]) rfl (Nat.lt_succ_self _) (Nat.le_trans (gj_cats _) (Nat.le_of_ble_eq_true rfl)) (by decide) (k1)))))

set_option maxRecDepth 100000 in
theorem la_keep_7 {z : State} {l : Launch} {d : Nat} {σ : Hp} {Q : Outcome → Hp → Prop} {v0 : Nat} {v1 : Int32} {v2 : Nat} {s0 : Int32} {s1 : Int32} {s2 : Nat} (t1 : σ.tag s2 = 23) (z2 : z.heap.size ≤ s2) (i3 : vp_in s1 (σ.len s2)) (k1 : Q (.returned (some (.int 0))) (σ.rowJ s2 (va_up (σ.eJ s2) s1.toNatClampNeg s0.toInt64))) : Go z l mt_A_keep (d + 9) 7 [.ref v0, .int v1, .ref v2, .retAddr 0] [.int s0, .int s1, .ref s2] σ Q :=
  go_i2l dd_A_keep_7 (go_last (t := 23) rfl (by decide) dd_A_keep_8 t1 z2 i3 (go_goto (tgt := 15) (by decide) dd_A_keep_9 (go_iconst (v := 0) (by decide +kernel) dd_A_keep_15 (go_iret (ty := .int) rfl rfl dd_A_keep_16 (k1)))))

set_option maxRecDepth 100000 in
theorem la_keep_12 {z : State} {l : Launch} {d : Nat} {σ : Hp} {Q : Outcome → Hp → Prop} {e : Nat} (k1 : Q (.returned (some (.int 1))) σ) : Go z l mt_A_keep (d + 9) 12 [.retAddr 0, .retAddr 0, .retAddr 0, .retAddr 0] [.ref e] σ Q :=
  go_astore_n rfl (by decide) (ls2 := [.retAddr 0, .retAddr 0, .retAddr 0, .ref e]) rfl dd_A_keep_12 (go_iconst (v := 1) (by decide +kernel) dd_A_keep_13 (go_iret (ty := .int) rfl rfl dd_A_keep_14 (k1)))

set_option maxRecDepth 100000 in
theorem la_value {z : State} {l : Launch} {d : Nat} {σ : Hp} {Q : Outcome → Hp → Prop} {x1 : Nat} {x2 : Int32} {x3 : Nat} (t1 : σ.tag x1 = 1) (k1 : Go z l mt_T_value (d + 8) 0 [.ref x1, .int x2] [] σ (fun o σ1 => hp_Le σ σ1 → gj_next z l mt_A_value (d + 9) 4 [.ref x1, .int x2, .ref x3, .retAddr 0] [.int 0, .ref x3] Q o σ1)) : Go z l mt_A_value (d + 9) 0 [.ref x1, .int x2, .ref x3, .retAddr 0] [] σ Q :=
  go_aload_n rfl rfl dd_A_value_0 (go_iconst (v := 0) (by decide +kernel) dd_A_value_1 (go_aload_n rfl rfl dd_A_value_2 (go_iload_n rfl rfl dd_A_value_3 (go_call (M' := mt_T_value) (d' := d + 8) (As := [.ref x1, .int x2]) (rest := [.int 0, .ref x3]) (gj_lkV (t := 1) mw_1050 mw_1051 mw_1052 cw_T_value pl_T_value np_T_value dd_A_value_4 t1 (by decide)) cw_T_value mw_1 pn_T_value (Nat.le_of_ble_eq_true rfl) (ls0 := [.ref x1, .int x2]) rfl (Nat.lt_succ_self _) (Nat.le_trans (gj_cats _) (Nat.le_of_ble_eq_true rfl)) (by decide) (k1)))))

set_option maxRecDepth 100000 in
theorem la_value_7 {z : State} {l : Launch} {d : Nat} {σ : Hp} {Q : Outcome → Hp → Prop} {v0 : Nat} {v1 : Int32} {v2 : Nat} {s0 : Int64} {s1 : Int32} {s2 : Nat} (t1 : σ.tag s2 = 23) (z2 : z.heap.size ≤ s2) (i3 : vp_in s1 (σ.len s2)) (k1 : Q (.returned (some (.int 0))) (σ.rowJ s2 (va_up (σ.eJ s2) s1.toNatClampNeg s0))) : Go z l mt_A_value (d + 9) 7 [.ref v0, .int v1, .ref v2, .retAddr 0] [.long s0, .int s1, .ref s2] σ Q :=
  go_last (t := 23) rfl (by decide) dd_A_value_7 t1 z2 i3 (go_goto (tgt := 14) (by decide) dd_A_value_8 (go_iconst (v := 0) (by decide +kernel) dd_A_value_14 (go_iret (ty := .int) rfl rfl dd_A_value_15 (k1))))

set_option maxRecDepth 100000 in
theorem la_value_11 {z : State} {l : Launch} {d : Nat} {σ : Hp} {Q : Outcome → Hp → Prop} {e : Nat} (k1 : Q (.returned (some (.int 1))) σ) : Go z l mt_A_value (d + 9) 11 [.retAddr 0, .retAddr 0, .retAddr 0, .retAddr 0] [.ref e] σ Q :=
  go_astore_n rfl (by decide) (ls2 := [.retAddr 0, .retAddr 0, .retAddr 0, .ref e]) rfl dd_A_value_11 (go_iconst (v := 1) (by decide +kernel) dd_A_value_12 (go_iret (ty := .int) rfl rfl dd_A_value_13 (k1)))

set_option maxRecDepth 100000 in
theorem la_count {z : State} {l : Launch} {d : Nat} {σ : Hp} {Q : Outcome → Hp → Prop} {x1 : Nat} {x2 : Int32} {x3 : Nat} (t1 : σ.tag x1 = 1) (k1 : Go z l mt_T_count (d + 8) 0 [.ref x1, .int x2] [] σ (fun o σ1 => hp_Le σ σ1 → gj_next z l mt_A_count (d + 9) 4 [.ref x1, .int x2, .ref x3, .retAddr 0] [.int 0, .ref x3] Q o σ1)) : Go z l mt_A_count (d + 9) 0 [.ref x1, .int x2, .ref x3, .retAddr 0] [] σ Q :=
  go_aload_n rfl rfl dd_A_count_0 (go_iconst (v := 0) (by decide +kernel) dd_A_count_1 (go_aload_n rfl rfl dd_A_count_2 (go_iload_n rfl rfl dd_A_count_3 (go_call (M' := mt_T_count) (d' := d + 8) (As := [.ref x1, .int x2]) (rest := [.int 0, .ref x3]) (gj_lkV (t := 1) mw_1061 mw_1062 mw_1063 cw_T_count pl_T_count np_T_count dd_A_count_4 t1 (by decide)) cw_T_count mw_1 pn_T_count (Nat.le_of_ble_eq_true rfl) (ls0 := [.ref x1, .int x2]) rfl (Nat.lt_succ_self _) (Nat.le_trans (gj_cats _) (Nat.le_of_ble_eq_true rfl)) (by decide) (k1)))))

set_option maxRecDepth 100000 in
theorem la_count_7 {z : State} {l : Launch} {d : Nat} {σ : Hp} {Q : Outcome → Hp → Prop} {v0 : Nat} {v1 : Int32} {v2 : Nat} {s0 : Int32} {s1 : Int32} {s2 : Nat} (t1 : σ.tag s2 = 23) (z2 : z.heap.size ≤ s2) (i3 : vp_in s1 (σ.len s2)) (k1 : Q (.returned (some (.int 0))) (σ.rowJ s2 (va_up (σ.eJ s2) s1.toNatClampNeg s0.toInt64))) : Go z l mt_A_count (d + 9) 7 [.ref v0, .int v1, .ref v2, .retAddr 0] [.int s0, .int s1, .ref s2] σ Q :=
  go_i2l dd_A_count_7 (go_last (t := 23) rfl (by decide) dd_A_count_8 t1 z2 i3 (go_goto (tgt := 15) (by decide) dd_A_count_9 (go_iconst (v := 0) (by decide +kernel) dd_A_count_15 (go_iret (ty := .int) rfl rfl dd_A_count_16 (k1)))))

set_option maxRecDepth 100000 in
theorem la_count_12 {z : State} {l : Launch} {d : Nat} {σ : Hp} {Q : Outcome → Hp → Prop} {e : Nat} (k1 : Q (.returned (some (.int 1))) σ) : Go z l mt_A_count (d + 9) 12 [.retAddr 0, .retAddr 0, .retAddr 0, .retAddr 0] [.ref e] σ Q :=
  go_astore_n rfl (by decide) (ls2 := [.retAddr 0, .retAddr 0, .retAddr 0, .ref e]) rfl dd_A_count_12 (go_iconst (v := 1) (by decide +kernel) dd_A_count_13 (go_iret (ty := .int) rfl rfl dd_A_count_14 (k1)))

