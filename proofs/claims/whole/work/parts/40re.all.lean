theorem q_gcAll : ∀ σ ∈ q_en 8 [], q_gc σ := by
  intro σ hσ
  obtain ⟨x, _, hx, _, h⟩ := (q_rs_mem (q_en 7) [] σ 8 (by decide)).mp hσ
  have vx : ∀ x, x < 8 → q_vl [x] := fun x hx => ⟨fun i hi => by
    have : i = 0 := by simp at hi; omega
    subst this
    exact hx, fun i j hi hj _ => by simp at hi hj; omega⟩
  have hm : ∀ x, x < 8 → ∀ y, y < 8 → (2 ^ x).testBit y = q_has [x] y := by decide +kernel
  have hs : ∀ x, x < 8 → q_sp [x] x := fun x hx => ⟨fun i hi => by
    have : i = 0 := by simp at hi; omega
    subst this
    show x / 8 ^ 0 % 8 = x
    rw [Nat.pow_zero, Nat.div_one, Nat.mod_eq_of_lt hx], by show x < 8 ^ 1; omega⟩
  have key : ∀ x, x < 8 → q_dfs 7 x (2 ^ x) 8 = true → σ ∈ q_en 7 [x] → q_gc σ := fun x hx hd hσ => q_dfs_ok 7 [x] x (2 ^ x) rfl (vx x hx) (hs x hx) (hm x hx) hd σ hσ
  rcases (by omega : x = 0 ∨ x = 1 ∨ x = 2 ∨ x = 3 ∨ x = 4 ∨ x = 5 ∨ x = 6 ∨ x = 7) with rfl | rfl | rfl | rfl | rfl | rfl | rfl | rfl
  · exact key 0 hx q_dk0 h
  · exact key 1 hx q_dk1 h
  · exact key 2 hx q_dk2 h
  · exact key 3 hx q_dk3 h
  · exact key 4 hx q_dk4 h
  · exact key 5 hx q_dk5 h
  · exact key 6 hx q_dk6 h
  · exact key 7 hx q_dk7 h
