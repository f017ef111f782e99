/-! ===== words: the strings of the signs and of the functions ===== -/
/-- a string of small characters -/
def Str (σ : Hp) (a : Nat) (cs : List Int32) : Prop := σ.tag a = 12 ∧ σ.I 82 a = 0 ∧ ∃ b, σ.A 81 a = some b ∧ σ.tag b = 21 ∧ σ.len b = cs.length ∧ ∀ i, i < cs.length → σ.eI b i = cs.getD i 0
/-- one that was there at the law's start -/
def StrO (z : State) (σ : Hp) (a : Nat) (cs : List Int32) : Prop := σ.tag a = 12 ∧ σ.I 82 a = 0 ∧ a < z.heap.size ∧ ∃ b, b < z.heap.size ∧ σ.A 81 a = some b ∧ σ.tag b = 21 ∧ σ.len b = cs.length ∧ ∀ i, i < cs.length → σ.eI b i = cs.getD i 0
def sc_sgw (i : Nat) : List Int32 := sc_words.getD i []
def sc_opw (i : Nat) : List Int32 := if 35 ≤ i then sc_funs.getD (i - 35) [] else []
def WSt (z : State) (σ : Hp) (op sg : Nat → Nat) : Prop := (∀ i, i < 35 → ∃ a, va_OF "TruthBench$Sign" "word" "Ljava/lang/String;" (.ref a) (sg i) (fun q => z.heap.size ≤ q) z z.heap ∧ StrO z σ a (sc_sgw i)) ∧ ∀ i, i < 43 → ∃ a, va_OF "TruthBench$Op" "word" "Ljava/lang/String;" (.ref a) (op i) (fun q => z.heap.size ≤ q) z z.heap ∧ StrO z σ a (sc_opw i)
theorem str_ov {z : State} {σ : Hp} {ad : Nat → Nat} {w : Wd} {a : Nat} {cs : List Int32} (hc : CW z σ ad) (h : StrO z σ a cs) : Str (ov σ ad 21 w) a cs := by
  obtain ⟨h1, h2, h3, b, h4, h5, h6, h7, h8⟩ := h
  have no : ∀ x, x < z.heap.size → ovx ad 21 x = none := fun x hx => by
    rcases ovx_cases ad 21 x with ⟨i, hi, e⟩ | ⟨-, q⟩
    · have := (hc.2 i hi).2.2
      omega
    · exact q
  refine ⟨h1, ?_, b, ?_, h6, h7, fun i hi => ?_⟩
  · show ovm ad 21 a _ _ = _
    rw [ovm_none (no a h3)]
    exact h2
  · show ovm ad 21 a _ _ = _
    rw [ovm_none (no a h3)]
    exact h5
  · show (ovm ad 21 b w.eI (σ.eI b)) i = _
    rw [ovm_none (no b h4)]
    exact h8 i hi
section Word
variable {z : State} {l : Launch} {d : Nat} {σ : Hp} {ad : Nat → Nat} {w : Wd} {Q : Outcome → Hp → Prop} {op sg : Nat → Nat} {aO aS mO mS : Nat} {T : Nat → Int32}
theorem cz_ofWord {s e : Nat} (hc : CW z σ ad) (hs : gj_St z op sg aO aS mO mS) (hw : WSt z σ op sg) (hT : w.eI 1 = T) (hse : s < e) (he : e ≤ 1000) (k : Q (.returned (some (.ref (sg (sc_idx (sc_lows T s e) sc_words))))) (ov σ ad 21 w)) : Go z l mt_Z_ofWord (d + 18) 0 [.ref (ad 1), .int (nI s), .int (nI e), .retAddr 0] [] (ov σ ad 21 w) Q := sorry
theorem co_ofFun {s e : Nat} (hc : CW z σ ad) (hs : gj_St z op sg aO aS mO mS) (hw : WSt z σ op sg) (hT : w.eI 1 = T) (hse : s < e) (he : e ≤ 1000) (k : Q (.returned (some (.ref (op (sc_ofFun T s e))))) (ov σ ad 21 w)) : Go z l mt_O_ofFunction (d + 18) 0 [.ref (ad 1), .int (nI s), .int (nI e), .retAddr 0] [] (ov σ ad 21 w) Q := sorry
end Word
