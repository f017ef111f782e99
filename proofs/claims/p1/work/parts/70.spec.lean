/-! ===== small helpers ===== -/
theorem pk_add {a b : Nat} : nI a + nI b = nI (a + b) := nI_add a b
theorem lN_ofI {t : Nat} (h : t ≤ 1000) : (nI t).toInt64 = lN t := nI_l (by omega)
theorem i64_32 {x : Int32} : x.toInt64.toInt32 = x := by simp
theorem vp_in_ofn {x : Int32} {n : Nat} (h1 : 0 ≤ x) (h2 : x < nI n) (h : n ≤ 1000) : vp_in x 1000 := by
  obtain ⟨j, hj, rfl⟩ := nI_of (Int32.not_lt.mpr h1)
  have := (nI_ltI hj (by omega)).mp h2
  exact vp_in_nI (by omega) (by omega)
theorem if_cg {α : Type} {p q : Prop} [Decidable p] [Decidable q] {a b : α} (h : p ↔ q) : (if p then a else b) = if q then a else b := by
  by_cases hp : p
  · rw [if_pos hp, if_pos (h.mp hp)]
  · rw [if_neg hp, if_neg (fun hq => hp (h.mpr hq))]
theorem Wd.setA_setA (w : Wd) (i f : Nat) (u v : Option Nat) : (w.setA i f u).setA i f v = w.setA i f v := by
  have : up22 (up22 w.A i f u) i f v = up22 w.A i f v := by
    funext h b
    rw [up22_eq, up22_eq, up22_eq]
    split <;> rfl
  show (w.I, w.J, (up22 (up22 w.A i f u) i f v : Nat → Nat → Option Nat), _) = _
  rw [this]
  rfl
/-! ===== the signs of a text T of L bytes ===== -/
abbrev sc_blank (b : Int32) : Prop := b = 32 ∨ b = 9 ∨ b = 10 ∨ b = 13
abbrev sc_let (b : Int32) : Prop := (97 ≤ b ∧ b ≤ 122) ∨ (65 ≤ b ∧ b ≤ 90) ∨ b = 95
abbrev sc_dig (b : Int32) : Prop := 48 ≤ b ∧ b ≤ 57
abbrev sc_chr (b : Int32) : Prop := 32 ≤ b ∧ b ≤ 126
def sc_alb (cs : List Int32) : Bool := cs.all (fun c => decide (sc_chr c))
theorem alb_iff {cs : List Int32} : sc_alb cs = true ↔ ∀ c ∈ cs, sc_chr c := by
  unfold sc_alb
  rw [List.all_eq_true]
  exact ⟨fun h c hc => of_decide_eq_true (h c hc), fun h c hc => decide_eq_true (h c hc)⟩
theorem alb_cons {x : Int32} {cs : List Int32} : sc_alb (x :: cs) = (decide (sc_chr x) && sc_alb cs) := rfl
def sc_low (b : Int32) : Int32 := if 65 ≤ b ∧ b ≤ 90 then b + 32 else b
def sc_skip (T : Nat → Int32) (L : Nat) : Nat → Bool → Nat → Nat
  | 0, _, p => p
  | n + 1, cm, p => if L ≤ p then p else if cm = true then sc_skip T L n (decide (¬ T p = 10)) (p + 1) else if T p = 45 ∧ p + 1 < L ∧ T (p + 1) = 45 then sc_skip T L n true (p + 1) else if sc_blank (T p) then sc_skip T L n false (p + 1) else p
def sc_word (T : Nat → Int32) (L : Nat) : Nat → Nat → Nat
  | 0, e => e
  | n + 1, e => if e < L ∧ (sc_let (T e) ∨ sc_dig (T e)) then sc_word T L n (e + 1) else e
def sc_int (T : Nat → Int32) (L : Nat) : Nat → Int64 → Nat → Int64 × Nat
  | 0, v, e => (v, e)
  | n + 1, v, e => if e < L ∧ sc_dig (T e) then sc_int T L n (if 9007199254740992 < 10 * v + (T e).toInt64 - 48 then 9007199254740992 else 10 * v + (T e).toInt64 - 48) (e + 1) else (v, e)
/-- behind a ': whether it is closed, the place behind it, its characters -/
def sc_quote (T : Nat → Int32) (L : Nat) : Nat → Nat → Bool × Nat × List Int32
  | 0, e => (false, e, [])
  | n + 1, e => if L ≤ e then (false, e, []) else if T e = 39 ∧ ¬ (e + 1 < L ∧ T (e + 1) = 39) then (true, e + 1, []) else ((sc_quote T L n (if T e = 39 then e + 2 else e + 1)).1, (sc_quote T L n (if T e = 39 then e + 2 else e + 1)).2.1, T e :: (sc_quote T L n (if T e = 39 then e + 2 else e + 1)).2.2)
def sc_mark (b : Int32) : Nat := if b = 37 then 29 else if b = 40 then 30 else if b = 41 then 31 else if b = 42 then 27 else if b = 43 then 24 else if b = 44 then 32 else if b = 45 then 25 else if b = 47 then 28 else if b = 60 then 20 else if b = 61 then 18 else if b = 62 then 22 else if b = 124 then 26 else 34
def sc_fol (T : Nat → Int32) (L p : Nat) (c : Int32) : Prop := p + 1 < L ∧ T (p + 1) = c
def sc_sign (T : Nat → Int32) (L p : Nat) : Nat × Nat :=
  if T p = 60 ∧ p + 1 < L ∧ T (p + 1) = 62 then (19, p + 2) else if T p = 60 ∧ p + 1 < L ∧ T (p + 1) = 61 then (21, p + 2) else if T p = 62 ∧ p + 1 < L ∧ T (p + 1) = 61 then (23, p + 2)
  else if T p = 124 then (if p + 1 < L ∧ T (p + 1) = 124 then (26, p + 2) else (34, p + 1)) else (sc_mark (T p), p + 1)
def sc_words : List (List Int32) := [[111, 114], [97, 110, 100], [110, 111, 116], [105, 115], [110, 117, 108, 108], [105, 110], [108, 105, 107, 101], [98, 101, 116, 119, 101, 101, 110], [99, 97, 115, 101], [119, 104, 101, 110], [116, 104, 101, 110], [101, 108, 115, 101], [101, 110, 100], [116, 114, 117, 101], [102, 97, 108, 115, 101]]
def sc_funs : List (List Int32) := [[97, 98, 115], [108, 101, 110, 103, 116, 104], [117, 112, 112, 101, 114], [108, 111, 119, 101, 114], [115, 117, 98, 115, 116, 114], [99, 111, 97, 108, 101, 115, 99, 101], [110, 117, 108, 108, 105, 102]]
/-- the word from s to e - 1 in small letters -/
def sc_lows (T : Nat → Int32) (s e : Nat) : List Int32 := (List.range (e - s)).map fun i => sc_low (T (s + i))
def sc_idx (w : List Int32) : List (List Int32) → Nat
  | [] => 0
  | x :: xs => if w = x then 0 else sc_idx w xs + 1
def sc_ofWord (T : Nat → Int32) (s e : Nat) : Nat := if 20 < e - s then 34 else sc_idx (sc_lows T s e) sc_words
def sc_ofFun (T : Nat → Int32) (s e : Nat) : Nat := 35 + sc_idx (sc_lows T s e) sc_funs
/-- the register of a name; 8 if it is none -/
def sc_reg (T : Nat → Int32) (s e : Nat) : Nat := if e = s + 1 ∧ 97 ≤ sc_low (T s) ∧ sc_low (T s) ≤ 104 then (sc_low (T s) - 97).toNatClampNeg else 8
def tk_s (T : Nat → Int32) (L p : Nat) : Nat := sc_skip T L (L - p) false p
/-- the sign that begins at s: its number, the place behind it, its number, its characters -/
def tk_at (T : Nat → Int32) (L s : Nat) : Nat × Nat × Int64 × List Int32 :=
  if L ≤ s then (33, s, 0, [])
  else if sc_let (T s) then (sc_ofWord T s (sc_word T L (L - s) s), sc_word T L (L - s) s, 0, [])
  else if sc_dig (T s) then (if 9007199254740991 < (sc_int T L (L - s) 0 s).1 then 34 else 16, (sc_int T L (L - s) 0 s).2, (sc_int T L (L - s) 0 s).1, [])
  else if T s = 39 then (if (sc_quote T L (L - s) (s + 1)).1 = true ∧ sc_alb (sc_quote T L (L - s) (s + 1)).2.2 = true ∧ (sc_quote T L (L - s) (s + 1)).2.2.length ≤ 40 then 17 else 34, (sc_quote T L (L - s) (s + 1)).2.1, 0, (sc_quote T L (L - s) (s + 1)).2.2)
  else ((sc_sign T L s).1, (sc_sign T L s).2, 0, [])
/-- the sign that comes behind the place p: number, place behind -/
def tk_g (T : Nat → Int32) (L p : Nat) : Nat := (tk_at T L (tk_s T L p)).1
def tk_e (T : Nat → Int32) (L p : Nat) : Nat := (tk_at T L (tk_s T L p)).2.1
def tk_n (T : Nat → Int32) (L p : Nat) : Int64 := (tk_at T L (tk_s T L p)).2.2.1
def tk_c (T : Nat → Int32) (L p : Nat) : List Int32 := (tk_at T L (tk_s T L p)).2.2.2
/-! ===== the rules: what a text means, or the place at which it is broken ===== -/
abbrev Pr : Type := Except Nat (Ex × Nat × Nat)
abbrev PX : Type := Nat → Nat → Nat → Pr
def ex_it (o : Nat) : Nat → Ex → Ex
  | 0, m => m
  | n + 1, m => ex_it o n (ex_1 o m)
section Rules
variable (T : Nat → Int32) (L : Nat)
def sp_front (s : Nat) : Nat → Nat → Except Nat (Nat × Nat)
  | 0, p => if tk_g T L p = s then .error (tk_s T L p) else .ok (0, p)
  | n + 1, p => if tk_g T L p = s then (match sp_front s n (tk_e T L p) with
    | .error e => .error e
    | .ok (k, q) => .ok (k + 1, q)) else .ok (0, p)
def sp_const (p ops : Nat) : Pr := if tk_g T L p = 16 then .ok (ex_int (tk_n T L p), tk_e T L p, ops) else if tk_g T L p = 17 then .ok (ex_text (tk_c T L p), tk_e T L p, ops) else if tk_g T L p = 13 then .ok (ex_bool 1, tk_e T L p, ops) else if tk_g T L p = 14 then .ok (ex_bool 0, tk_e T L p, ops) else if tk_g T L p = 4 then .ok (ex_null, tk_e T L p, ops) else .error (tk_s T L p)
/-- a sign that must stand -/
def sp_take {α : Type} (g : Nat) (x : α) (p ops : Nat) : Except Nat (α × Nat × Nat) := if tk_g T L p = g then .ok (x, tk_e T L p, ops) else .error (tk_s T L p)
def sp_list (X : PX) (k : Nat) : Nat → Nat → Nat → Except Nat (List Ex × Nat × Nat)
  | 0, p, _ => .error (tk_s T L p)
  | n + 1, p, ops => match X (k + 1) p ops with
    | .error e => .error e
    | .ok (m, p1, o1) => if tk_g T L p1 = 32 then (match sp_list X k n (tk_e T L p1) o1 with
      | .error e => .error e
      | .ok (ms, p2, o2) => .ok (m :: ms, p2, o2)) else .ok ([m], p1, o1)
def sp_whens (X : PX) (k : Nat) : Nat → Nat → Nat → Except Nat (List (Ex × Ex) × Nat × Nat)
  | 0, p, _ => .error (tk_s T L p)
  | n + 1, p, ops => if tk_g T L p = 9 then (match X (k + 1) (tk_e T L p) ops with
    | .error e => .error e
    | .ok (c, p1, o1) => if tk_g T L p1 = 10 then (match X (k + 1) (tk_e T L p1) o1 with
      | .error e => .error e
      | .ok (r, p2, o2) => if tk_g T L p2 = 9 then (match sp_whens X k n p2 o2 with
        | .error e => .error e
        | .ok (cs, p3, o3) => .ok ((c, r) :: cs, p3, o3)) else .ok ([(c, r)], p2, o2)) else .error (tk_s T L p1)) else .error (tk_s T L p)
def sp_args (X : PX) (k p ops : Nat) : Except Nat (List Ex × Nat × Nat) := if tk_g T L p = 31 then .ok ([], p, ops) else sp_list T L X k 8 p ops
def sp_name (X : PX) (k p ops : Nat) : Pr := if tk_g T L (tk_e T L p) = 30 then (match sp_args T L X k (tk_e T L (tk_e T L p)) ops with
    | .error e => .error e
    | .ok (ms, p2, o2) => sp_take T L 31 (ex_fun (sc_ofFun T (tk_s T L p) (tk_e T L p)) ms) p2 o2)
  else if sc_reg T (tk_s T L p) (tk_e T L p) < 8 then .ok (ex_reg (sc_reg T (tk_s T L p) (tk_e T L p)), tk_e T L p, ops) else .error (tk_s T L p)
def sp_else (X : PX) (k p ops : Nat) : Pr := if tk_g T L p = 11 then X (k + 1) (tk_e T L p) ops else .ok (ex_null, p, ops)
def sp_case (X : PX) (k p ops : Nat) : Pr := match sp_whens T L X k 19 (tk_e T L p) ops with
  | .error e => .error e
  | .ok (cs, p2, o2) => match sp_else T L X k p2 o2 with
    | .error e => .error e
    | .ok (me, p3, o3) => sp_take T L 12 (ex_case cs me) p3 o3
def sp_paren (X : PX) (k p ops : Nat) : Pr := match X (k + 1) (tk_e T L p) ops with
  | .error e => .error e
  | .ok (m, p2, o2) => sp_take T L 31 m p2 o2
def sp_prim (X : PX) (k p ops : Nat) : Pr := if tk_g T L p = 15 then sp_name T L X k p ops else if tk_g T L p = 8 then sp_case T L X k p ops else if tk_g T L p = 30 then sp_paren T L X k p ops else sp_const T L p ops
def sp_factor (X : PX) (k p ops : Nat) : Pr := match sp_front T L 25 (30 - k) p with
  | .error e => .error e
  | .ok (j, q) => match sp_prim T L X (k + j) q ops with
    | .error e => .error e
    | .ok (m, p2, o2) => .ok (ex_it 33 j m, p2, o2)
/-- operators of one rule, from the left -/
def sp_ops (F : Nat → Nat → Pr) (og : Nat → Nat) (mk : Nat → Ex → Ex → Ex) : Nat → Ex → Nat → Nat → Pr
  | 0, m, p, ops => .ok (m, p, ops)
  | n + 1, m, p, ops => if og (tk_g T L p) = 0 then .ok (m, p, ops) else if 300 ≤ ops then .error (tk_s T L p) else (match F (tk_e T L p) (ops + 1) with
    | .error e => .error e
    | .ok (m2, p2, o2) => sp_ops F og mk n (mk (og (tk_g T L p)) m m2) p2 o2)
def sp_row (F : Nat → Nat → Pr) (og : Nat → Nat) (mk : Nat → Ex → Ex → Ex) (p ops : Nat) : Pr := match F p ops with
  | .error e => .error e
  | .ok (m, p1, o1) => sp_ops T L F og mk 301 m p1 o1
def og_prod (g : Nat) : Nat := if g = 27 then 30 else if g = 28 then 31 else if g = 29 then 32 else 0
def og_sum (g : Nat) : Nat := if g = 24 then 28 else if g = 25 then 29 else if g = 26 then 27 else 0
def og_cmp (g : Nat) : Nat := if g = 18 then 20 else if g = 19 then 21 else if g = 20 then 22 else if g = 21 then 23 else if g = 22 then 24 else if g = 23 then 25 else 0
def og_and (g : Nat) : Nat := if g = 1 then 15 else 0
def og_or (g : Nat) : Nat := if g = 0 then 14 else 0
def sp_prod (X : PX) (k p ops : Nat) : Pr := sp_row T L (sp_factor T L X k) og_prod ex_2 p ops
def sp_sum (X : PX) (k p ops : Nat) : Pr := sp_row T L (sp_prod T L X k) og_sum ex_2 p ops
def sp_inl (X : PX) (k : Nat) (a : Ex) (p ops : Nat) : Pr := if tk_g T L p = 30 then (match sp_list T L X k 8 (tk_e T L p) ops with
    | .error e => .error e
    | .ok (ms, p2, o2) => sp_take T L 31 (ex_in a ms) p2 o2) else .error (tk_s T L p)
def sp_betw (X : PX) (k : Nat) (a : Ex) (p ops : Nat) : Pr := match sp_sum T L X k p ops with
  | .error e => .error e
  | .ok (b, p1, o1) => if tk_g T L p1 = 1 then (match sp_sum T L X k (tk_e T L p1) o1 with
    | .error e => .error e
    | .ok (c, p2, o2) => .ok (ex_between a b c, p2, o2)) else .error (tk_s T L p1)
def sp_two (X : PX) (k o : Nat) (a : Ex) (p ops : Nat) : Pr := match sp_sum T L X k p ops with
  | .error e => .error e
  | .ok (b, p2, o2) => .ok (ex_2 o a b, p2, o2)
def sp_within (X : PX) (k : Nat) (a : Ex) (nd : Bool) (p ops : Nat) : Pr := if tk_g T L p = 5 then sp_inl T L X k a (tk_e T L p) ops else if tk_g T L p = 6 then sp_two T L X k 26 a (tk_e T L p) ops else if tk_g T L p = 7 then sp_betw T L X k a (tk_e T L p) ops else if nd = true then .error (tk_s T L p) else .ok (a, p, ops)
def sp_isnull (a : Ex) (p ops : Nat) : Pr := if tk_g T L p = 2 then sp_take T L 4 (ex_1 16 (ex_isnull a)) (tk_e T L p) ops else sp_take T L 4 (ex_isnull a) p ops
def sp_cmpr (X : PX) (k : Nat) (a : Ex) (p ops : Nat) : Pr := if ¬ og_cmp (tk_g T L p) = 0 then sp_two T L X k (og_cmp (tk_g T L p)) a (tk_e T L p) ops else if tk_g T L p = 3 then sp_isnull T L a (tk_e T L p) ops else if tk_g T L p = 2 then (match sp_within T L X k a true (tk_e T L p) ops with
    | .error e => .error e
    | .ok (m, p2, o2) => .ok (ex_1 16 m, p2, o2)) else sp_within T L X k a false p ops
def sp_condB (X : PX) (k p ops : Nat) : Pr := match sp_sum T L X k p ops with
  | .error e => .error e
  | .ok (a, p2, o2) => sp_cmpr T L X k a p2 o2
def sp_cond (X : PX) (k p ops : Nat) : Pr := match sp_front T L 2 (30 - k) p with
  | .error e => .error e
  | .ok (j, q) => match sp_condB T L X (k + j) q ops with
    | .error e => .error e
    | .ok (m, p2, o2) => .ok (ex_it 16 j m, p2, o2)
def sp_conj (X : PX) (k p ops : Nat) : Pr := sp_row T L (sp_cond T L X k) og_and (fun _ => ex_and) p ops
def sp_expr (X : PX) (k p ops : Nat) : Pr := if 30 < k then .error (tk_s T L p) else sp_row T L (sp_conj T L X k) og_or (fun _ => ex_or) p ops
def sp_X : Nat → PX
  | 0 => fun _ p _ => .error (tk_s T L p)
  | f + 1 => sp_expr T L (sp_X f)
def sp_read : Except Nat Ex := match sp_X T L 31 1 0 0 with
  | .error e => .error e
  | .ok (m, p, _) => if tk_g T L p = 33 then .ok m else .error (tk_s T L p)
end Rules
