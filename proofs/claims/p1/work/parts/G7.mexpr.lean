/-! ===== the reference's rules, all ===== -/
section MExpr
variable {z : State} {l : Launch} {am : Nat → Nat} {T : Nat → Int32} {L sa lo : Nat}
theorem rm_X : ∀ (f k : Nat), k ≤ 30 → 30 ≤ f + k → RM z l am T L sa lo mt_M_expression [.ref (am 0), .retAddr 0] k 0 (4 * (30 - k) - 1) (sp_X T L f (k + 1))
  | 0, k, hk, hf => by
    have k30 : k = 30 := by omega
    subst k30
    exact rm_expr (k := 30) (F := fun _ _ => .error 0) (fun q => absurd q (by decide)) rn_or
  | f + 1, k, hk, hf => by
    have X : ∀ k', k' ≤ 30 → k + 1 ≤ k' → RM z l am T L sa lo mt_M_expression [.ref (am 0), .retAddr 0] k' 0 (4 * (30 - k') - 1) (sp_X T L f (k' + 1)) := fun k' h1 h2 => rm_X f k' h1 (by omega)
    have prim : ∀ k', k' ≤ 30 → k + 1 ≤ k' → RM z l am T L sa lo mt_M_primary [.ref (am 0), .retAddr 0, .retAddr 0, .retAddr 0] k' 2 (4 * (31 - k') - 3) (sp_prim T L (sp_X T L f) k') := fun k' h1 h2 =>
      rm_prim (X k' h1 h2) (fun d σ w p ops Q h8 hG kk => rm_cases (X k' h1 h2) rn_case (by omega) d σ w p ops Q h8 hG kk) rn_fun (by omega)
    have unary : ∀ k', k' ≤ 30 → k + 1 ≤ k' → RM z l am T L sa lo mt_M_unary [.ref (am 0), .retAddr 0] k' 3 (4 * (31 - k') - 3) (sp_factor T L (sp_X T L f) k') := fun k' h1 h2 =>
      rm_unary (k0 := k + 1) prim rn_minus (30 - k') k' (by omega) h2
    have sum : ∀ k', k' ≤ 30 → k + 1 ≤ k' → RM z l am T L sa lo mt_M_sum [.ref (am 0), .retAddr 0, .retAddr 0] k' 5 (4 * (31 - k') - 3) (sp_sum T L (sp_X T L f) k') := fun k' h1 h2 =>
      rm_sum (rm_term (unary k' h1 h2) rn_prod) rn_sum
    have comp : ∀ k', k' ≤ 30 → k + 1 ≤ k' → RM z l am T L sa lo mt_M_compared [.ref (am 0), .retAddr 0, .retAddr 0] k' 7 (4 * (31 - k') - 1) (sp_condB T L (sp_X T L f) k') := fun k' h1 h2 =>
      (rm_compared (sum k' h1 h2) ((X k' h1 h2).mono (by omega)) rn_like rn_in rn_btw rn_cmp rn_isn0 rn_isn1 rn_not).mono (by omega)
    exact rm_expr (F := sp_conj T L (sp_X T L f) (k + 1)) (fun q => (rm_both (rm_negated (k0 := k + 1) comp rn_not (30 - (k + 1)) (k + 1) (by omega) (Nat.le_refl _)) rn_and).mono (by omega)) rn_or
end MExpr
