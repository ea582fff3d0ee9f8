/-- the class's state tells the model's -/
def rg_Rep (M : rg_Mem) : Prop :=
  (M.1 1 4 = M.1 412 4 ∧ M.1 0 9 = M.1 412 5 ∧ M.1 6 4 = M.1 412 11 ∧ M.1 6 0 = M.1 412 7 ∧ M.1 6 1 = M.1 412 8 ∧ M.1 6 2 = M.1 412 9 ∧ M.1 6 3 = M.1 412 10 ∧ M.1 0 10 = M.1 412 24 ∧ M.1 0 11 = M.1 412 29 ∧ M.1 0 12 = M.1 412 25 ∧ M.1 90 1 = M.1 412 20) ∧
  (M.1 2 = M.1 413 ∧ M.1 3 = M.1 414 ∧ M.1 4 = M.1 415 ∧ M.2 5 = M.2 416 ∧ M.1 7 = M.1 420 ∧ M.1 9 = M.1 419) ∧
  ((M.1 412 6 = 0 ∧ rm_nt M = 0) ∨ (M.1 412 6 = 1 ∧ 2 ≤ rm_nt M)) ∧
  (∀ k, k < rm_nd M → M.1 91 k = M.1 424 k) ∧
  (∀ l, l < rm_nl M → M.1 (17 + 2 * l) 1 = M.1 418 l ∧ (∀ k, k < rm_z M l → M.1 (17 + 2 * l + 1) k = M.1 417 (6 * l + k)) ∧ M.1 10 l = M.1 421 l ∧ M.1 11 l = M.1 422 l ∧ ∀ j, j < 4 → M.1 (13 + j) l = M.1 423 (36 * j + l) - 1) ∧
  (∀ o, o < rm_no M → M.1 (99 + 2 * o) 1 = M.1 426 o ∧ M.1 97 o = M.1 427 o ∧ ∀ k, k < rm_oz M o → M.1 (99 + 2 * o + 1) k = M.1 425 (6 * o + k)) ∧
  (∀ c, c < rm_nc M → ∀ x, x < 36 → ∀ y, y < 6 → M.1 (110 + 38 * c + x) y = if x < rm_cl M c ∧ y < rm_cz M c x then M.1 428 (216 * c + 6 * x + y) else -1) ∧
  (∀ c, c < rm_nc M → ∀ x, x < rm_cl M c → ∀ y, y < rm_cz M c x → rm_iw M (M.1 428 (216 * c + 6 * x + y))) ∧
  (∀ j k, j < 4 → k < 36 → (rm_nl M ≤ k → M.1 423 (36 * j + k) = 0) ∧ ∃ q, q ≤ 11 ∧ M.1 423 (36 * j + k) = nI q) ∧
  ∀ w, w < rm_nw M → (∃ q, q ≤ 12 ∧ M.1 413 w = nI q) ∧ ∃ q, q ≤ 1023 ∧ M.1 415 w = nI q
def rg_Inv (M : rg_Mem) : Prop := rg_CI M ∧ rm_CI M ∧ rg_Rep M
