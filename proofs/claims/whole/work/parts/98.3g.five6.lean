/-! the search: level 5, part 6 -/
theorem k5_144 : chk5C kT4 kT5 [(1694, [34659])] 7920 = true := by decide +kernel
theorem g5_144 : ∀ k, 7920 ≤ k → k < 7921 → Good (decG 5 (rpA kT5 (16 * 5) k)) := fun k h1 h2 => chk5C_ok k5_144 k h1 h2
