/-! ===== the runs are the functions ===== -/
theorem zQ0_ : ¬ ((1 : Int) ≤ 0) := by decide
theorem zQ1_ : (1 : Int) ≤ 1 := by decide
theorem zQ2_ : ¬ ((0 : Int) ≤ (-1)) := by decide
set_option maxRecDepth 100000 in
theorem vn53_0 {S : Nat → zSpc}  {a : List Int} {g : rHp} : ∀ (ρ : Nat → Int) (γ : Nat → rHp), zO 2 S a g q53_0 ρ γ → zGl (fun _ _ _ => True) (sn53 a g) q53_0 ρ γ := by
  intro ρ γ h
  obtain ⟨ha, hg, hr, hf, hm, hc, hl⟩ := h
  have ha : a = [ρ 0, ρ 1] := ha
  subst ha
  subst hg
  have m1 : γ 0 69 0 (ρ 0 + 1) = ρ 2 := zAllA hm 1
  have m2 : γ 0 71 0 (ρ 0 + 1) = ρ 3 := zAllA hm 2
  have m3 : γ 0 72 0 (ρ 0 + 1) = ρ 4 := zAllA hm 3
  have m4 : γ 0 73 0 (ρ 0 + 1) = ρ 5 := zAllA hm 4
  have m5 : γ 0 74 0 (ρ 0 + 1) = ρ 6 := zAllA hm 5
  have m6 : γ 0 75 0 (ρ 0 + 1) = ρ 7 := zAllA hm 6
  have m7 : γ 0 70 0 (4 * ρ 0 + 4) = ρ 8 := zAllA hm 7
  have m8 : γ 0 76 0 (4 * ρ 0 + 4) = ρ 9 := zAllA hm 8
  have m9 : γ 0 70 0 (4 * ρ 0 + 5) = ρ 10 := zAllA hm 9
  have m10 : γ 0 76 0 (4 * ρ 0 + 5) = ρ 11 := zAllA hm 10
  have m11 : γ 0 70 0 (4 * ρ 0 + 6) = ρ 12 := zAllA hm 11
  have m12 : γ 0 76 0 (4 * ρ 0 + 6) = ρ 13 := zAllA hm 12
  have m13 : γ 0 70 0 (4 * ρ 0 + 7) = ρ 14 := zAllA hm 13
  have m14 : γ 0 76 0 (4 * ρ 0 + 7) = ρ 15 := zAllA hm 14
  have m15 : γ 0 77 0 (8 * ρ 0 + 8) = ρ 16 := zAllA hm 15
  have m16 : γ 0 78 0 (8 * ρ 0 + 8) = ρ 17 := zAllA hm 16
  have m17 : γ 0 79 0 (8 * ρ 0 + 8) = ρ 18 := zAllA hm 17
  have m18 : γ 0 77 0 (8 * ρ 0 + 9) = ρ 19 := zAllA hm 18
  have m19 : γ 0 78 0 (8 * ρ 0 + 9) = ρ 20 := zAllA hm 19
  have m20 : γ 0 79 0 (8 * ρ 0 + 9) = ρ 21 := zAllA hm 20
  have m21 : γ 0 77 0 (8 * ρ 0 + 10) = ρ 22 := zAllA hm 21
  have m22 : γ 0 78 0 (8 * ρ 0 + 10) = ρ 23 := zAllA hm 22
  have m23 : γ 0 79 0 (8 * ρ 0 + 10) = ρ 24 := zAllA hm 23
  have m24 : γ 0 77 0 (8 * ρ 0 + 11) = ρ 25 := zAllA hm 24
  have m25 : γ 0 78 0 (8 * ρ 0 + 11) = ρ 26 := zAllA hm 25
  have m26 : γ 0 79 0 (8 * ρ 0 + 11) = ρ 27 := zAllA hm 26
  have m27 : γ 0 77 0 (8 * ρ 0 + 12) = ρ 28 := zAllA hm 27
  have m28 : γ 0 78 0 (8 * ρ 0 + 12) = ρ 29 := zAllA hm 28
  have m29 : γ 0 79 0 (8 * ρ 0 + 12) = ρ 30 := zAllA hm 29
  have m30 : γ 0 77 0 (8 * ρ 0 + 13) = ρ 31 := zAllA hm 30
  have m31 : γ 0 78 0 (8 * ρ 0 + 13) = ρ 32 := zAllA hm 31
  have m32 : γ 0 79 0 (8 * ρ 0 + 13) = ρ 33 := zAllA hm 32
  have m33 : γ 0 77 0 (8 * ρ 0 + 14) = ρ 34 := zAllA hm 33
  have m34 : γ 0 78 0 (8 * ρ 0 + 14) = ρ 35 := zAllA hm 34
  have m35 : γ 0 79 0 (8 * ρ 0 + 14) = ρ 36 := zAllA hm 35
  have m36 : γ 0 77 0 (8 * ρ 0 + 15) = ρ 37 := zAllA hm 36
  have m37 : γ 0 78 0 (8 * ρ 0 + 15) = ρ 38 := zAllA hm 37
  have m38 : γ 0 79 0 (8 * ρ 0 + 15) = ρ 39 := zAllA hm 38
  have m39 : γ 0 80 0 (32 * ρ 0 + 32) = ρ 40 := zAllA hm 39
  have m40 : γ 0 81 0 (32 * ρ 0 + 32) = ρ 41 := zAllA hm 40
  have m41 : γ 0 80 0 (32 * ρ 0 + 33) = ρ 42 := zAllA hm 41
  have m42 : γ 0 81 0 (32 * ρ 0 + 33) = ρ 43 := zAllA hm 42
  have m43 : γ 0 80 0 (32 * ρ 0 + 34) = ρ 44 := zAllA hm 43
  have m44 : γ 0 81 0 (32 * ρ 0 + 34) = ρ 45 := zAllA hm 44
  have m45 : γ 0 80 0 (32 * ρ 0 + 35) = ρ 46 := zAllA hm 45
  have m46 : γ 0 81 0 (32 * ρ 0 + 35) = ρ 47 := zAllA hm 46
  have m47 : γ 0 80 0 (32 * ρ 0 + 36) = ρ 48 := zAllA hm 47
  have m48 : γ 0 81 0 (32 * ρ 0 + 36) = ρ 49 := zAllA hm 48
  have m49 : γ 0 80 0 (32 * ρ 0 + 37) = ρ 50 := zAllA hm 49
  have m50 : γ 0 81 0 (32 * ρ 0 + 37) = ρ 51 := zAllA hm 50
  have m51 : γ 0 80 0 (32 * ρ 0 + 38) = ρ 52 := zAllA hm 51
  have m52 : γ 0 81 0 (32 * ρ 0 + 38) = ρ 53 := zAllA hm 52
  have m53 : γ 0 80 0 (32 * ρ 0 + 39) = ρ 54 := zAllA hm 53
  have m54 : γ 0 81 0 (32 * ρ 0 + 39) = ρ 55 := zAllA hm 54
  have m55 : γ 0 80 0 (32 * ρ 0 + 40) = ρ 56 := zAllA hm 55
  have m56 : γ 0 81 0 (32 * ρ 0 + 40) = ρ 57 := zAllA hm 56
  have m57 : γ 0 80 0 (32 * ρ 0 + 41) = ρ 58 := zAllA hm 57
  have m58 : γ 0 81 0 (32 * ρ 0 + 41) = ρ 59 := zAllA hm 58
  have m59 : γ 0 80 0 (32 * ρ 0 + 42) = ρ 60 := zAllA hm 59
  have m60 : γ 0 81 0 (32 * ρ 0 + 42) = ρ 61 := zAllA hm 60
  have m61 : γ 0 80 0 (32 * ρ 0 + 43) = ρ 62 := zAllA hm 61
  have m62 : γ 0 81 0 (32 * ρ 0 + 43) = ρ 63 := zAllA hm 62
  have m63 : γ 0 80 0 (32 * ρ 0 + 44) = ρ 64 := zAllA hm 63
  have m64 : γ 0 81 0 (32 * ρ 0 + 44) = ρ 65 := zAllA hm 64
  have m65 : γ 0 80 0 (32 * ρ 0 + 45) = ρ 66 := zAllA hm 65
  have m66 : γ 0 81 0 (32 * ρ 0 + 45) = ρ 67 := zAllA hm 66
  have m67 : γ 0 80 0 (32 * ρ 0 + 46) = ρ 68 := zAllA hm 67
  have m68 : γ 0 81 0 (32 * ρ 0 + 46) = ρ 69 := zAllA hm 68
  have m69 : γ 0 80 0 (32 * ρ 0 + 47) = ρ 70 := zAllA hm 69
  have m70 : γ 0 81 0 (32 * ρ 0 + 47) = ρ 71 := zAllA hm 70
  have m71 : γ 0 80 0 (32 * ρ 0 + 48) = ρ 72 := zAllA hm 71
  have m72 : γ 0 81 0 (32 * ρ 0 + 48) = ρ 73 := zAllA hm 72
  have m73 : γ 0 80 0 (32 * ρ 0 + 49) = ρ 74 := zAllA hm 73
  have m74 : γ 0 81 0 (32 * ρ 0 + 49) = ρ 75 := zAllA hm 74
  have m75 : γ 0 80 0 (32 * ρ 0 + 50) = ρ 76 := zAllA hm 75
  have m76 : γ 0 81 0 (32 * ρ 0 + 50) = ρ 77 := zAllA hm 76
  have m77 : γ 0 80 0 (32 * ρ 0 + 51) = ρ 78 := zAllA hm 77
  have m78 : γ 0 81 0 (32 * ρ 0 + 51) = ρ 79 := zAllA hm 78
  have m79 : γ 0 80 0 (32 * ρ 0 + 52) = ρ 80 := zAllA hm 79
  have m80 : γ 0 81 0 (32 * ρ 0 + 52) = ρ 81 := zAllA hm 80
  have m81 : γ 0 80 0 (32 * ρ 0 + 53) = ρ 82 := zAllA hm 81
  have m82 : γ 0 81 0 (32 * ρ 0 + 53) = ρ 83 := zAllA hm 82
  have m83 : γ 0 80 0 (32 * ρ 0 + 54) = ρ 84 := zAllA hm 83
  have m84 : γ 0 81 0 (32 * ρ 0 + 54) = ρ 85 := zAllA hm 84
  have m85 : γ 0 80 0 (32 * ρ 0 + 55) = ρ 86 := zAllA hm 85
  have m86 : γ 0 81 0 (32 * ρ 0 + 55) = ρ 87 := zAllA hm 86
  have m87 : γ 0 80 0 (32 * ρ 0 + 56) = ρ 88 := zAllA hm 87
  have m88 : γ 0 81 0 (32 * ρ 0 + 56) = ρ 89 := zAllA hm 88
  have m89 : γ 0 80 0 (32 * ρ 0 + 57) = ρ 90 := zAllA hm 89
  have m90 : γ 0 81 0 (32 * ρ 0 + 57) = ρ 91 := zAllA hm 90
  have m91 : γ 0 80 0 (32 * ρ 0 + 58) = ρ 92 := zAllA hm 91
  have m92 : γ 0 81 0 (32 * ρ 0 + 58) = ρ 93 := zAllA hm 92
  have m93 : γ 0 80 0 (32 * ρ 0 + 59) = ρ 94 := zAllA hm 93
  have m94 : γ 0 81 0 (32 * ρ 0 + 59) = ρ 95 := zAllA hm 94
  have m95 : γ 0 80 0 (32 * ρ 0 + 60) = ρ 96 := zAllA hm 95
  have m96 : γ 0 81 0 (32 * ρ 0 + 60) = ρ 97 := zAllA hm 96
  have m97 : γ 0 80 0 (32 * ρ 0 + 61) = ρ 98 := zAllA hm 97
  have m98 : γ 0 81 0 (32 * ρ 0 + 61) = ρ 99 := zAllA hm 98
  have m99 : γ 0 80 0 (32 * ρ 0 + 62) = ρ 100 := zAllA hm 99
  have m100 : γ 0 81 0 (32 * ρ 0 + 62) = ρ 101 := zAllA hm 100
  have m101 : γ 0 80 0 (32 * ρ 0 + 63) = ρ 102 := zAllA hm 101
  have m102 : γ 0 81 0 (32 * ρ 0 + 63) = ρ 103 := zAllA hm 102
  have c1 : γ 1 = rUp (γ 0) 69 0 (ρ 0) (ρ 2) := And.right (zChA hc 101)
  have c2 : γ 2 = rUp (γ 1) 71 0 (ρ 0) (ρ 3) := And.right (zChA hc 100)
  have c3 : γ 3 = rUp (γ 2) 72 0 (ρ 0) (ρ 4) := And.right (zChA hc 99)
  have c4 : γ 4 = rUp (γ 3) 73 0 (ρ 0) (ρ 5) := And.right (zChA hc 98)
  have c5 : γ 5 = rUp (γ 4) 74 0 (ρ 0) (ρ 6) := And.right (zChA hc 97)
  have c6 : γ 6 = rUp (γ 5) 75 0 (ρ 0) (ρ 7) := And.right (zChA hc 96)
  have c7 : γ 7 = rUp (γ 6) 70 0 (4 * ρ 0) (ρ 8) := And.right (zChA hc 95)
  have c8 : γ 8 = rUp (γ 7) 76 0 (4 * ρ 0) (ρ 9) := And.right (zChA hc 94)
  have c9 : γ 9 = rUp (γ 8) 70 0 (4 * ρ 0 + 1) (ρ 10) := And.right (zChA hc 93)
  have c10 : γ 10 = rUp (γ 9) 76 0 (4 * ρ 0 + 1) (ρ 11) := And.right (zChA hc 92)
  have c11 : γ 11 = rUp (γ 10) 70 0 (4 * ρ 0 + 2) (ρ 12) := And.right (zChA hc 91)
  have c12 : γ 12 = rUp (γ 11) 76 0 (4 * ρ 0 + 2) (ρ 13) := And.right (zChA hc 90)
  have c13 : γ 13 = rUp (γ 12) 70 0 (4 * ρ 0 + 3) (ρ 14) := And.right (zChA hc 89)
  have c14 : γ 14 = rUp (γ 13) 76 0 (4 * ρ 0 + 3) (ρ 15) := And.right (zChA hc 88)
  have c15 : γ 15 = rUp (γ 14) 77 0 (8 * ρ 0) (ρ 16) := And.right (zChA hc 87)
  have c16 : γ 16 = rUp (γ 15) 78 0 (8 * ρ 0) (ρ 17) := And.right (zChA hc 86)
  have c17 : γ 17 = rUp (γ 16) 79 0 (8 * ρ 0) (ρ 18) := And.right (zChA hc 85)
  have c18 : γ 18 = rUp (γ 17) 77 0 (8 * ρ 0 + 1) (ρ 19) := And.right (zChA hc 84)
  have c19 : γ 19 = rUp (γ 18) 78 0 (8 * ρ 0 + 1) (ρ 20) := And.right (zChA hc 83)
  have c20 : γ 20 = rUp (γ 19) 79 0 (8 * ρ 0 + 1) (ρ 21) := And.right (zChA hc 82)
  have c21 : γ 21 = rUp (γ 20) 77 0 (8 * ρ 0 + 2) (ρ 22) := And.right (zChA hc 81)
  have c22 : γ 22 = rUp (γ 21) 78 0 (8 * ρ 0 + 2) (ρ 23) := And.right (zChA hc 80)
  have c23 : γ 23 = rUp (γ 22) 79 0 (8 * ρ 0 + 2) (ρ 24) := And.right (zChA hc 79)
  have c24 : γ 24 = rUp (γ 23) 77 0 (8 * ρ 0 + 3) (ρ 25) := And.right (zChA hc 78)
  have c25 : γ 25 = rUp (γ 24) 78 0 (8 * ρ 0 + 3) (ρ 26) := And.right (zChA hc 77)
  have c26 : γ 26 = rUp (γ 25) 79 0 (8 * ρ 0 + 3) (ρ 27) := And.right (zChA hc 76)
  have c27 : γ 27 = rUp (γ 26) 77 0 (8 * ρ 0 + 4) (ρ 28) := And.right (zChA hc 75)
  have c28 : γ 28 = rUp (γ 27) 78 0 (8 * ρ 0 + 4) (ρ 29) := And.right (zChA hc 74)
  have c29 : γ 29 = rUp (γ 28) 79 0 (8 * ρ 0 + 4) (ρ 30) := And.right (zChA hc 73)
  have c30 : γ 30 = rUp (γ 29) 77 0 (8 * ρ 0 + 5) (ρ 31) := And.right (zChA hc 72)
  have c31 : γ 31 = rUp (γ 30) 78 0 (8 * ρ 0 + 5) (ρ 32) := And.right (zChA hc 71)
  have c32 : γ 32 = rUp (γ 31) 79 0 (8 * ρ 0 + 5) (ρ 33) := And.right (zChA hc 70)
  have c33 : γ 33 = rUp (γ 32) 77 0 (8 * ρ 0 + 6) (ρ 34) := And.right (zChA hc 69)
  have c34 : γ 34 = rUp (γ 33) 78 0 (8 * ρ 0 + 6) (ρ 35) := And.right (zChA hc 68)
  have c35 : γ 35 = rUp (γ 34) 79 0 (8 * ρ 0 + 6) (ρ 36) := And.right (zChA hc 67)
  have c36 : γ 36 = rUp (γ 35) 77 0 (8 * ρ 0 + 7) (ρ 37) := And.right (zChA hc 66)
  have c37 : γ 37 = rUp (γ 36) 78 0 (8 * ρ 0 + 7) (ρ 38) := And.right (zChA hc 65)
  have c38 : γ 38 = rUp (γ 37) 79 0 (8 * ρ 0 + 7) (ρ 39) := And.right (zChA hc 64)
  have c39 : γ 39 = rUp (γ 38) 80 0 (32 * ρ 0) (ρ 40) := And.right (zChA hc 63)
  have c40 : γ 40 = rUp (γ 39) 81 0 (32 * ρ 0) (ρ 41) := And.right (zChA hc 62)
  have c41 : γ 41 = rUp (γ 40) 80 0 (32 * ρ 0 + 1) (ρ 42) := And.right (zChA hc 61)
  have c42 : γ 42 = rUp (γ 41) 81 0 (32 * ρ 0 + 1) (ρ 43) := And.right (zChA hc 60)
  have c43 : γ 43 = rUp (γ 42) 80 0 (32 * ρ 0 + 2) (ρ 44) := And.right (zChA hc 59)
  have c44 : γ 44 = rUp (γ 43) 81 0 (32 * ρ 0 + 2) (ρ 45) := And.right (zChA hc 58)
  have c45 : γ 45 = rUp (γ 44) 80 0 (32 * ρ 0 + 3) (ρ 46) := And.right (zChA hc 57)
  have c46 : γ 46 = rUp (γ 45) 81 0 (32 * ρ 0 + 3) (ρ 47) := And.right (zChA hc 56)
  have c47 : γ 47 = rUp (γ 46) 80 0 (32 * ρ 0 + 4) (ρ 48) := And.right (zChA hc 55)
  have c48 : γ 48 = rUp (γ 47) 81 0 (32 * ρ 0 + 4) (ρ 49) := And.right (zChA hc 54)
  have c49 : γ 49 = rUp (γ 48) 80 0 (32 * ρ 0 + 5) (ρ 50) := And.right (zChA hc 53)
  have c50 : γ 50 = rUp (γ 49) 81 0 (32 * ρ 0 + 5) (ρ 51) := And.right (zChA hc 52)
  have c51 : γ 51 = rUp (γ 50) 80 0 (32 * ρ 0 + 6) (ρ 52) := And.right (zChA hc 51)
  have c52 : γ 52 = rUp (γ 51) 81 0 (32 * ρ 0 + 6) (ρ 53) := And.right (zChA hc 50)
  have c53 : γ 53 = rUp (γ 52) 80 0 (32 * ρ 0 + 7) (ρ 54) := And.right (zChA hc 49)
  have c54 : γ 54 = rUp (γ 53) 81 0 (32 * ρ 0 + 7) (ρ 55) := And.right (zChA hc 48)
  have c55 : γ 55 = rUp (γ 54) 80 0 (32 * ρ 0 + 8) (ρ 56) := And.right (zChA hc 47)
  have c56 : γ 56 = rUp (γ 55) 81 0 (32 * ρ 0 + 8) (ρ 57) := And.right (zChA hc 46)
  have c57 : γ 57 = rUp (γ 56) 80 0 (32 * ρ 0 + 9) (ρ 58) := And.right (zChA hc 45)
  have c58 : γ 58 = rUp (γ 57) 81 0 (32 * ρ 0 + 9) (ρ 59) := And.right (zChA hc 44)
  have c59 : γ 59 = rUp (γ 58) 80 0 (32 * ρ 0 + 10) (ρ 60) := And.right (zChA hc 43)
  have c60 : γ 60 = rUp (γ 59) 81 0 (32 * ρ 0 + 10) (ρ 61) := And.right (zChA hc 42)
  have c61 : γ 61 = rUp (γ 60) 80 0 (32 * ρ 0 + 11) (ρ 62) := And.right (zChA hc 41)
  have c62 : γ 62 = rUp (γ 61) 81 0 (32 * ρ 0 + 11) (ρ 63) := And.right (zChA hc 40)
  have c63 : γ 63 = rUp (γ 62) 80 0 (32 * ρ 0 + 12) (ρ 64) := And.right (zChA hc 39)
  have c64 : γ 64 = rUp (γ 63) 81 0 (32 * ρ 0 + 12) (ρ 65) := And.right (zChA hc 38)
  have c65 : γ 65 = rUp (γ 64) 80 0 (32 * ρ 0 + 13) (ρ 66) := And.right (zChA hc 37)
  have c66 : γ 66 = rUp (γ 65) 81 0 (32 * ρ 0 + 13) (ρ 67) := And.right (zChA hc 36)
  have c67 : γ 67 = rUp (γ 66) 80 0 (32 * ρ 0 + 14) (ρ 68) := And.right (zChA hc 35)
  have c68 : γ 68 = rUp (γ 67) 81 0 (32 * ρ 0 + 14) (ρ 69) := And.right (zChA hc 34)
  have c69 : γ 69 = rUp (γ 68) 80 0 (32 * ρ 0 + 15) (ρ 70) := And.right (zChA hc 33)
  have c70 : γ 70 = rUp (γ 69) 81 0 (32 * ρ 0 + 15) (ρ 71) := And.right (zChA hc 32)
  have c71 : γ 71 = rUp (γ 70) 80 0 (32 * ρ 0 + 16) (ρ 72) := And.right (zChA hc 31)
  have c72 : γ 72 = rUp (γ 71) 81 0 (32 * ρ 0 + 16) (ρ 73) := And.right (zChA hc 30)
  have c73 : γ 73 = rUp (γ 72) 80 0 (32 * ρ 0 + 17) (ρ 74) := And.right (zChA hc 29)
  have c74 : γ 74 = rUp (γ 73) 81 0 (32 * ρ 0 + 17) (ρ 75) := And.right (zChA hc 28)
  have c75 : γ 75 = rUp (γ 74) 80 0 (32 * ρ 0 + 18) (ρ 76) := And.right (zChA hc 27)
  have c76 : γ 76 = rUp (γ 75) 81 0 (32 * ρ 0 + 18) (ρ 77) := And.right (zChA hc 26)
  have c77 : γ 77 = rUp (γ 76) 80 0 (32 * ρ 0 + 19) (ρ 78) := And.right (zChA hc 25)
  have c78 : γ 78 = rUp (γ 77) 81 0 (32 * ρ 0 + 19) (ρ 79) := And.right (zChA hc 24)
  have c79 : γ 79 = rUp (γ 78) 80 0 (32 * ρ 0 + 20) (ρ 80) := And.right (zChA hc 23)
  have c80 : γ 80 = rUp (γ 79) 81 0 (32 * ρ 0 + 20) (ρ 81) := And.right (zChA hc 22)
  have c81 : γ 81 = rUp (γ 80) 80 0 (32 * ρ 0 + 21) (ρ 82) := And.right (zChA hc 21)
  have c82 : γ 82 = rUp (γ 81) 81 0 (32 * ρ 0 + 21) (ρ 83) := And.right (zChA hc 20)
  have c83 : γ 83 = rUp (γ 82) 80 0 (32 * ρ 0 + 22) (ρ 84) := And.right (zChA hc 19)
  have c84 : γ 84 = rUp (γ 83) 81 0 (32 * ρ 0 + 22) (ρ 85) := And.right (zChA hc 18)
  have c85 : γ 85 = rUp (γ 84) 80 0 (32 * ρ 0 + 23) (ρ 86) := And.right (zChA hc 17)
  have c86 : γ 86 = rUp (γ 85) 81 0 (32 * ρ 0 + 23) (ρ 87) := And.right (zChA hc 16)
  have c87 : γ 87 = rUp (γ 86) 80 0 (32 * ρ 0 + 24) (ρ 88) := And.right (zChA hc 15)
  have c88 : γ 88 = rUp (γ 87) 81 0 (32 * ρ 0 + 24) (ρ 89) := And.right (zChA hc 14)
  have c89 : γ 89 = rUp (γ 88) 80 0 (32 * ρ 0 + 25) (ρ 90) := And.right (zChA hc 13)
  have c90 : γ 90 = rUp (γ 89) 81 0 (32 * ρ 0 + 25) (ρ 91) := And.right (zChA hc 12)
  have c91 : γ 91 = rUp (γ 90) 80 0 (32 * ρ 0 + 26) (ρ 92) := And.right (zChA hc 11)
  have c92 : γ 92 = rUp (γ 91) 81 0 (32 * ρ 0 + 26) (ρ 93) := And.right (zChA hc 10)
  have c93 : γ 93 = rUp (γ 92) 80 0 (32 * ρ 0 + 27) (ρ 94) := And.right (zChA hc 9)
  have c94 : γ 94 = rUp (γ 93) 81 0 (32 * ρ 0 + 27) (ρ 95) := And.right (zChA hc 8)
  have c95 : γ 95 = rUp (γ 94) 80 0 (32 * ρ 0 + 28) (ρ 96) := And.right (zChA hc 7)
  have c96 : γ 96 = rUp (γ 95) 81 0 (32 * ρ 0 + 28) (ρ 97) := And.right (zChA hc 6)
  have c97 : γ 97 = rUp (γ 96) 80 0 (32 * ρ 0 + 29) (ρ 98) := And.right (zChA hc 5)
  have c98 : γ 98 = rUp (γ 97) 81 0 (32 * ρ 0 + 29) (ρ 99) := And.right (zChA hc 4)
  have c99 : γ 99 = rUp (γ 98) 80 0 (32 * ρ 0 + 30) (ρ 100) := And.right (zChA hc 3)
  have c100 : γ 100 = rUp (γ 99) 81 0 (32 * ρ 0 + 30) (ρ 101) := And.right (zChA hc 2)
  have c101 : γ 101 = rUp (γ 100) 80 0 (32 * ρ 0 + 31) (ρ 102) := And.right (zChA hc 1)
  have c102 : γ 102 = rUp (γ 101) 81 0 (32 * ρ 0 + 31) (ρ 103) := And.right (zChA hc 0)
  show sn53 [ρ 0, ρ 1] (γ 0) 0 0 (γ 102)
  refine Eq.symm ?_
  show fn53 [ρ 0] (γ 0) = _
  unfold fn53
  refine zLV (ρ 0) rfl (zLE m1 (zLE c1.symm (zLE m2 (zLE c2.symm (zLE m3 (zLE c3.symm (zLE m4 ?_)))))))
  refine zLE c4.symm (zLE m5 (zLE c5.symm (zLE m6 (zLE c6.symm (zLE m7 (zLE c7.symm (zLE m8 ?_)))))))
  refine zLE c8.symm (zLE m9 (zLE c9.symm (zLE m10 (zLE c10.symm (zLE m11 (zLE c11.symm (zLE m12 ?_)))))))
  refine zLE c12.symm (zLE m13 (zLE c13.symm (zLE m14 (zLE c14.symm (zLE m15 (zLE c15.symm (zLE m16 ?_)))))))
  refine zLE c16.symm (zLE m17 (zLE c17.symm (zLE m18 (zLE c18.symm (zLE m19 (zLE c19.symm (zLE m20 ?_)))))))
  refine zLE c20.symm (zLE m21 (zLE c21.symm (zLE m22 (zLE c22.symm (zLE m23 (zLE c23.symm (zLE m24 ?_)))))))
  refine zLE c24.symm (zLE m25 (zLE c25.symm (zLE m26 (zLE c26.symm (zLE m27 (zLE c27.symm (zLE m28 ?_)))))))
  refine zLE c28.symm (zLE m29 (zLE c29.symm (zLE m30 (zLE c30.symm (zLE m31 (zLE c31.symm (zLE m32 ?_)))))))
  refine zLE c32.symm (zLE m33 (zLE c33.symm (zLE m34 (zLE c34.symm (zLE m35 (zLE c35.symm (zLE m36 ?_)))))))
  refine zLE c36.symm (zLE m37 (zLE c37.symm (zLE m38 (zLE c38.symm (zLE m39 (zLE c39.symm (zLE m40 ?_)))))))
  refine zLE c40.symm (zLE m41 (zLE c41.symm (zLE m42 (zLE c42.symm (zLE m43 (zLE c43.symm (zLE m44 ?_)))))))
  refine zLE c44.symm (zLE m45 (zLE c45.symm (zLE m46 (zLE c46.symm (zLE m47 (zLE c47.symm (zLE m48 ?_)))))))
  refine zLE c48.symm (zLE m49 (zLE c49.symm (zLE m50 (zLE c50.symm (zLE m51 (zLE c51.symm (zLE m52 ?_)))))))
  refine zLE c52.symm (zLE m53 (zLE c53.symm (zLE m54 (zLE c54.symm (zLE m55 (zLE c55.symm (zLE m56 ?_)))))))
  refine zLE c56.symm (zLE m57 (zLE c57.symm (zLE m58 (zLE c58.symm (zLE m59 (zLE c59.symm (zLE m60 ?_)))))))
  refine zLE c60.symm (zLE m61 (zLE c61.symm (zLE m62 (zLE c62.symm (zLE m63 (zLE c63.symm (zLE m64 ?_)))))))
  refine zLE c64.symm (zLE m65 (zLE c65.symm (zLE m66 (zLE c66.symm (zLE m67 (zLE c67.symm (zLE m68 ?_)))))))
  refine zLE c68.symm (zLE m69 (zLE c69.symm (zLE m70 (zLE c70.symm (zLE m71 (zLE c71.symm (zLE m72 ?_)))))))
  refine zLE c72.symm (zLE m73 (zLE c73.symm (zLE m74 (zLE c74.symm (zLE m75 (zLE c75.symm (zLE m76 ?_)))))))
  refine zLE c76.symm (zLE m77 (zLE c77.symm (zLE m78 (zLE c78.symm (zLE m79 (zLE c79.symm (zLE m80 ?_)))))))
  refine zLE c80.symm (zLE m81 (zLE c81.symm (zLE m82 (zLE c82.symm (zLE m83 (zLE c83.symm (zLE m84 ?_)))))))
  refine zLE c84.symm (zLE m85 (zLE c85.symm (zLE m86 (zLE c86.symm (zLE m87 (zLE c87.symm (zLE m88 ?_)))))))
  refine zLE c88.symm (zLE m89 (zLE c89.symm (zLE m90 (zLE c90.symm (zLE m91 (zLE c91.symm (zLE m92 ?_)))))))
  refine zLE c92.symm (zLE m93 (zLE c93.symm (zLE m94 (zLE c94.symm (zLE m95 (zLE c95.symm (zLE m96 ?_)))))))
  refine zLE c96.symm (zLE m97 (zLE c97.symm (zLE m98 (zLE c98.symm (zLE m99 (zLE c99.symm (zLE m100 ?_)))))))
  refine zLE c100.symm (zLE m101 (zLE c101.symm (zLE m102 (zLE c102.symm ?_))))
  rfl
set_option maxRecDepth 100000 in
theorem yn53 {S : Nat → zSpc}  : ∀ x g o v gz, zSem uW uT w53_.2.2.2.1 w53_.2.2.1.1.length S q53 (fun i => q53a.getD i []) (zNA a53_) x g o v gz → sn53 x g o v gz := by
  intro a g o v gz h
  exact zSem_all (l0 := q53) (las := q53a) (S := S) (J := (fun _ _ _ => True)) (P := sn53 a g) (fun _ => (show zAll _ [q53_0] from (zAll_c (vn53_0 ) zAll_n))) (fun _ => (show zAllI _ 0 [] from trivial)) h
