theorem uCk : ∀ n, n < uJL.length → n ≠ 168 → rCkn 3000 uMx uW uT uJL uAn uBds n = true := by sorry
